import java.util.function.Consumer;
import java.util.function.Supplier;
import java.util.function.ToIntFunction;

/** "Conventions" of the document: each refused call, the order of the errors, and that an error changes nothing. */
public final class RefusedCallsTest {
    private static final int NO_SUCH = -100001, BAD_VALUE = -100002, BAD_TEXT = -100003, TOO_MANY = -100004,
        NOT_POSSIBLE = -100005, NONE = -100006;
    private static final int MIN = Integer.MIN_VALUE, MAX = Integer.MAX_VALUE;
    private static final Check check = new Check();

    public static void main(String[] args) {
        codes();
        errorsInTheirOrder();
        noneOnlyWithoutAnError();
        refusedChanges();
        refusedSends();
        refusedPasses();
        refusedViews();
        refusedWhatIfs();
        refusedTexts();
        refusedUndoAndSlots();
        check.end();
    }

    private static void codes() {
        check.about("NO_SUCH (-100001), BAD_VALUE (-100002), BAD_TEXT (-100003), TOO_MANY (-100004) and NOT_POSSIBLE (-100005)");
        check.due("NO_SUCH", HarpOrders.NO_SUCH, NO_SUCH);
        check.due("BAD_VALUE", HarpOrders.BAD_VALUE, BAD_VALUE);
        check.due("BAD_TEXT", HarpOrders.BAD_TEXT, BAD_TEXT);
        check.due("TOO_MANY", HarpOrders.TOO_MANY, TOO_MANY);
        check.due("NOT_POSSIBLE", HarpOrders.NOT_POSSIBLE, NOT_POSSIBLE);
        check.due("NONE", HarpOrders.NONE, NONE);
        int[] settings = {HarpOrders.TIER, HarpOrders.BASE, HarpOrders.HEAVY, HarpOrders.TRAVEL, HarpOrders.WAIT,
            HarpOrders.FREE, HarpOrders.DUTY, HarpOrders.CHANCE, HarpOrders.BREAK};
        for (int i = 0; i < settings.length; i++) {
            check.due("setting " + i, settings[i], i);
        }
    }

    private static void errorsInTheirOrder() {
        check.about("it names its errors in the order in which they are checked, and the first one that applies is returned");
        HarpOrders x = new HarpOrders();
        check.due("fit: no such gauge, whole", x.fit(0, 0, 8), NO_SUCH);
        check.due("want: no such member, too many", x.want(6, 0, 21), NO_SUCH);
        check.due("want: no such gauge, below 0", x.want(0, 8, -1), NO_SUCH);
        check.due("pay: no such member, no pence", x.pay(6, 0), NO_SUCH);
        check.due("give: no such member, both the same", x.give(6, 6, 0, 1), NO_SUCH);
        check.due("give: no such gauge, both the same", x.give(0, 0, 8, 1), NO_SUCH);
        check.due("give: no such other, none given", x.give(0, 6, 0, 0), NO_SUCH);
        check.due("give: both the same, has none", x.give(0, 0, 0, 1), BAD_VALUE);
        check.due("give: too many, has none", x.give(0, 1, 0, 21), BAD_VALUE);
        check.due("member: no such member, no such thing", x.member(6, 9), NO_SUCH);
        check.due("parcel: no such parcel, no such thing", x.parcel(0, 5), NO_SUCH);
        check.due("share: no such member, no such set", x.share(64, 6), NO_SUCH);
        check.due("ifMore: no such member, too many", x.ifMore(6, 0, 21), NO_SUCH);
        check.due("ifMore: no such gauge, none", x.ifMore(0, 8, 0), NO_SUCH);
        check.due("restore: no such slot, never saved", x.restore(2), BAD_VALUE);
        Check.put(x, "!".repeat(60));
        check.due("put: a bad code, and the pad is full", x.put(32), BAD_VALUE);
        check.due("put: no character, and the pad is full", x.put(0), BAD_VALUE);
        x = Clubs.full();
        check.due("send: no set, without strings, five parcels", x.send(0), BAD_VALUE);
        check.due("send: without strings, five parcels", x.send(63), NOT_POSSIBLE);
        x.want(0, 7, 20);
        x.want(1, 7, 20);
        check.due("send: too dear, five parcels", x.send(63), NOT_POSSIBLE);
        Clubs.toLastDay(x);
        check.due("pass: too many days, above 9999", x.pass(61), BAD_VALUE);
        check.due("pass: no day, on the day 9999", x.pass(0), BAD_VALUE);
    }

    private static void noneOnlyWithoutAnError() {
        check.about("NONE (-100006) is not an error; it is returned only if no error applies");
        HarpOrders x = new HarpOrders();
        check.due("standIn of a whole string", x.standIn(0, 0), NONE);
        check.due("standIn of no member", x.standIn(6, 0), NO_SUCH);
        check.due("standIn of no string", x.standIn(0, 8), NO_SUCH);
        Check.put(x, "a0:1");
        check.due("fault of a text without one", x.fault(), NONE);
        check.due("read of a text without one", x.read(), 31);
    }

    /** A club in which everything is different from what it was at first. */
    private static HarpOrders inUse() {
        HarpOrders x = Clubs.quick();
        Clubs.stock(x, 0, 2, 3);
        Clubs.stock(x, 1, 2, 99);
        x.snap(0, 2);
        x.snap(0, 5);
        x.set(Clubs.BASE, 7);
        x.set(Clubs.CHANCE, 100);
        x.want(2, 3, 4);
        x.send(4);
        x.save(0);
        x.pass(1);
        x.want(3, 4, 2);
        x.want(4, 0, 1);
        x.send(8);
        Check.put(x, "a0:1,1:");
        return x;
    }

    private static HarpOrders inUseAndFull() {
        HarpOrders x = inUse();
        for (int i = 0; i < 4; i++) {
            Clubs.sendOne(x, 5);
        }
        x.want(5, 0, 1);
        return x;
    }

    /** Makes two like clubs for each look, as a club may be called 512 times, and calls one of them in vain. */
    private static void refused(String call, int error, Supplier<HarpOrders> club, ToIntFunction<HarpOrders> refusedCall) {
        check.about("A call that returns an error changes nothing: " + call);
        check.due("the call", refusedCall.applyAsInt(club.get()), error);
        for (int back = 0; back <= 6; back++) {
            int undone = back;
            alike(club, refusedCall, "with " + back + " changes undone", x -> undo(x, undone));
        }
        for (int slot = 0; slot <= 1; slot++) {
            int saved = slot;
            alike(club, refusedCall, "with slot " + slot + " restored", x -> x.restore(saved));
        }
        alike(club, refusedCall, "with more characters", x -> {
            Check.put(x, "2;f0:3");
            x.read();
        });
    }

    private static void undo(HarpOrders x, int times) {
        for (int i = 0; i < times; i++) {
            x.undo();
        }
    }

    private static void alike(Supplier<HarpOrders> club, ToIntFunction<HarpOrders> refusedCall, String how, Consumer<HarpOrders> then) {
        HarpOrders left = club.get();
        HarpOrders called = club.get();
        refusedCall.applyAsInt(called);
        then.accept(left);
        then.accept(called);
        check.holds(how, Check.look(left).equals(Check.look(called)));
    }

    private static void refused(String call, int error, ToIntFunction<HarpOrders> refusedCall) {
        refused(call, error, RefusedCallsTest::inUse, refusedCall);
    }

    private static void refusedChanges() {
        for (int setting : new int[] {MIN, -1, 9, MAX}) {
            refused("set, no such setting", BAD_VALUE, x -> x.set(setting, 5));
        }
        refused("set, below its range", BAD_VALUE, x -> x.set(0, 1));
        refused("set, above its range", BAD_VALUE, x -> x.set(8, 101));
        for (int no : new int[] {MIN, -1, 6, MAX}) {
            refused("snap, no such member", NO_SUCH, x -> x.snap(no, 0));
            refused("fit, no such member", NO_SUCH, x -> x.fit(no, 2, 2));
            refused("want, no such member", NO_SUCH, x -> x.want(no, 0, 1));
            refused("pay, no such member", NO_SUCH, x -> x.pay(no, 1));
            refused("give, no such member", NO_SUCH, x -> x.give(no, 1, 2, 1));
            refused("give, no such other", NO_SUCH, x -> x.give(0, no, 2, 1));
        }
        for (int no : new int[] {MIN, -1, 8, MAX}) {
            refused("snap, no such string", NO_SUCH, x -> x.snap(0, no));
            refused("fit, no such string", NO_SUCH, x -> x.fit(0, no, 2));
            refused("fit, no such gauge", NO_SUCH, x -> x.fit(0, 2, no));
            refused("want, no such gauge", NO_SUCH, x -> x.want(0, no, 1));
            refused("give, no such gauge", NO_SUCH, x -> x.give(0, 2, no, 1));
        }
        refused("snap, it is broken", NOT_POSSIBLE, x -> x.snap(0, 2));
        refused("fit, it is whole", NOT_POSSIBLE, x -> x.fit(0, 1, 2));
        refused("fit, the gauge does not do", NOT_POSSIBLE, x -> x.fit(0, 5, 2));
        refused("fit, has none", NOT_POSSIBLE, x -> x.fit(0, 5, 5));
        refused("give, both the same", BAD_VALUE, x -> x.give(0, 0, 2, 1));
        refused("give, has not so many", NOT_POSSIBLE, x -> x.give(0, 2, 2, 4));
        refused("give, above 99", NOT_POSSIBLE, x -> x.give(0, 1, 2, 1));
        for (int no : new int[] {MIN, -1, 21, MAX}) {
            refused("want, many", BAD_VALUE, x -> x.want(0, 0, no));
            refused("give, many", BAD_VALUE, x -> x.give(1, 0, 2, no));
        }
        refused("give, none", BAD_VALUE, x -> x.give(1, 0, 2, 0));
        for (int no : new int[] {MIN, -1, 0, 1001, MAX}) {
            refused("pay, pence", BAD_VALUE, x -> x.pay(0, no));
        }
        refused("shuffle, -1", BAD_VALUE, x -> x.shuffle(-1));
        refused("shuffle, the least", BAD_VALUE, x -> x.shuffle(MIN));
        refused("read, a fault", BAD_TEXT, HarpOrders::read);
    }

    private static void refusedSends() {
        for (int no : new int[] {MIN, -1, 0, 64, MAX}) {
            refused("send, no such set", BAD_VALUE, x -> x.send(no));
        }
        refused("send, without strings", NOT_POSSIBLE, x -> x.send(1));
        refused("send, more than is in the chest", NOT_POSSIBLE, () -> {
            HarpOrders x = inUse();
            x.set(Clubs.HEAVY, 9);
            for (int member = 0; member < 6; member++) {
                x.want(member, 6, 20);
                x.want(member, 7, 20);
            }
            return x;
        }, x -> x.send(63));
        refused("send, five parcels", TOO_MANY, RefusedCallsTest::inUseAndFull, x -> x.send(32));
    }

    private static void refusedPasses() {
        for (int no : new int[] {MIN, -1, 0, 61, MAX}) {
            refused("pass, days", BAD_VALUE, x -> x.pass(no));
        }
        Supplier<HarpOrders> late = () -> {
            HarpOrders x = new HarpOrders();
            Clubs.toLastDay(x);
            x.undo();
            x.pay(0, 100);
            Clubs.sendOne(x, 0);
            return x;
        };
        refused("pass, above 9999", TOO_MANY, late, x -> x.pass(9999 - x.count(9) + 1));
    }

    private static void refusedViews() {
        for (int no : new int[] {MIN, -1, 6, MAX}) {
            refused("member, no such member", NO_SUCH, x -> x.member(no, 0));
            refused("strings, no such member", NO_SUCH, x -> x.strings(no, 0, true));
        }
        for (int no : new int[] {MIN, -1, 9, MAX}) {
            refused("member, what", BAD_VALUE, x -> x.member(0, no));
        }
        for (int no : new int[] {MIN, -1, 8, MAX}) {
            refused("strings, no such gauge", NO_SUCH, x -> x.strings(0, no, false));
        }
        for (int no : new int[] {MIN, -1, 2, 5, MAX}) {
            refused("parcel, no such parcel", NO_SUCH, x -> x.parcel(no, 0));
        }
        refused("parcel, a sixth", NO_SUCH, RefusedCallsTest::inUseAndFull, x -> x.parcel(5, 0));
        for (int no : new int[] {MIN, -1, 5, MAX}) {
            refused("parcel, what", BAD_VALUE, x -> x.parcel(1, no));
        }
        for (int no : new int[] {MIN, -1, 19, MAX}) {
            refused("count, what", BAD_VALUE, x -> x.count(no));
        }
    }

    private static void refusedWhatIfs() {
        for (int no : new int[] {MIN, -1, 64, MAX}) {
            refused("order, members", BAD_VALUE, x -> x.order(no, 0));
            refused("share, members", BAD_VALUE, x -> x.share(no, 3));
        }
        for (int no : new int[] {MIN, -1, 5, MAX}) {
            refused("order, what", BAD_VALUE, x -> x.order(63, no));
        }
        for (int no : new int[] {MIN, -1, 6, MAX}) {
            refused("share, no such member", NO_SUCH, x -> x.share(63, no));
            refused("ifMore, no such member", NO_SUCH, x -> x.ifMore(no, 0, 1));
            refused("standIn, no such member", NO_SUCH, x -> x.standIn(no, 2));
        }
        for (int no : new int[] {MIN, -1, 8, MAX}) {
            refused("ifMore, no such gauge", NO_SUCH, x -> x.ifMore(0, no, 1));
            refused("standIn, no such string", NO_SUCH, x -> x.standIn(0, no));
        }
        for (int no : new int[] {MIN, -1, 0, 21, MAX}) {
            refused("ifMore, many", BAD_VALUE, x -> x.ifMore(0, 0, no));
        }
        for (int no : new int[] {MIN, -1, 2, MAX}) {
            refused("bestParting, what", BAD_VALUE, x -> x.bestParting(no));
        }
    }

    private static void refusedTexts() {
        refused("put, no character", BAD_VALUE, x -> x.put(0));
        refused("put, a code of 32", BAD_VALUE, x -> x.put('1' << 8 | 32));
        refused("put, a code of 127", BAD_VALUE, x -> x.put('1' << 8 | 127));
        refused("put, a bit above a zero", BAD_VALUE, x -> x.put(1L << 16 | '1'));
        refused("put, above 60", TOO_MANY, () -> {
            HarpOrders x = inUse();
            Check.put(x, "1;a0:1;a0:1;a0:1;a0:1;a0:1;a0:1;a0:1;a0:1;a0:1;a0:1");
            return x;
        }, x -> x.put(Check.packed(";b1")));
    }

    private static void refusedUndoAndSlots() {
        refused("undo, none", NOT_POSSIBLE, () -> {
            HarpOrders x = inUse();
            undo(x, 6);
            return x;
        }, HarpOrders::undo);
        for (int no : new int[] {MIN, -1, 2, MAX}) {
            refused("save, no such slot", BAD_VALUE, x -> x.save(no));
            refused("restore, no such slot", BAD_VALUE, x -> x.restore(no));
        }
        refused("restore, nothing was saved", NOT_POSSIBLE, x -> x.restore(1));
    }
}
