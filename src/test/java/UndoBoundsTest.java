import java.util.ArrayList;
import java.util.List;

/** Promises 25 to 27: the bounds that their sentences name, one method for each sentence. */
public final class UndoBoundsTest {
    private static final int BAD_VALUE = -100002, NOT_POSSIBLE = -100005;
    private static final int MIN = Integer.MIN_VALUE, MAX = Integer.MAX_VALUE;
    private static final Check check = new Check();

    public static void main(String[] args) {
        everythingAsBefore();
        exceptThePad();
        exceptTheSlots();
        exceptTheHistory();
        sixStates();
        oldestIsDropped();
        errorsRecordNothing();
        nothingIsDifferent();
        noChanges();
        undoOfNothing();
        undoneThen();
        undoOfParcels();
        slots();
        saveReturnsTheDay();
        saveOverwrites();
        saveLeavesOut();
        twoSlots();
        noSuchSlot();
        nothingSaved();
        slotKeepsIt();
        restoreIsAChange();
        restoreLeavesOut();
        restoreReturnsTheDay();
        check.end();
    }

    /** A club in which each change makes a difference. */
    private static HarpOrders inUse() {
        HarpOrders x = Clubs.quick();
        Clubs.stock(x, 0, 1, 5);
        x.set(Clubs.BASE, 7);
        x.snap(0, 1);
        x.want(1, 2, 3);
        x.want(2, 0, 1);
        x.send(4);
        x.save(1);
        Check.put(x, "f7:2");
        return x;
    }

    private static int change(HarpOrders x, int which) {
        switch (which) {
            case 0: return x.set(5, 500);
            case 1: return x.snap(0, 2);
            case 2: return x.fit(0, 1, 1);
            case 3: return x.want(0, 0, 20);
            case 4: return x.read();
            case 5: return x.pay(4, 1000);
            case 6: return x.give(0, 3, 1, 2);
            case 7: return x.send(2);
            case 8: return x.pass(1);
            case 9: return x.shuffle(2147483647);
            default: return x.restore(1);
        }
    }

    private static void everythingAsBefore() {
        check.about("everything except the pad, the slots and the history is as it was before it");
        for (int which = 0; which <= 10; which++) {
            HarpOrders x = inUse();
            if (which == 10) {
                x.pass(60);
            }
            String before = Check.lookAtClub(x);
            check.holds("no error of " + which, change(x, which) > -100000);
            check.holds("a difference of " + which, !before.equals(Check.lookAtClub(x)));
            check.due("undo", x.undo(), 5);
            check.holds("as before " + which, before.equals(Check.lookAtClub(x)));
        }
    }

    private static void exceptThePad() {
        check.about("everything except the pad");
        HarpOrders x = new HarpOrders();
        x.pay(0, 1);
        Check.put(x, "a0:1");
        x.undo();
        check.due("what was put stays", x.count(17), 4);
        x.pay(0, 1);
        x.wipe();
        x.undo();
        check.due("what was wiped stays away", x.count(17), 0);
        Check.put(x, "a0:1");
        x.read();
        x.undo();
        check.due("what was read stays away", x.count(17), 0);
        check.due("but it is not wanted", x.order(63, 3), 0);
    }

    private static void exceptTheSlots() {
        check.about("everything except the pad, the slots");
        HarpOrders x = new HarpOrders();
        x.pay(0, 1);
        x.save(0);
        x.undo();
        check.due("it is saved still", x.restore(0), 0);
        check.due("as it was saved", x.member(0, 0), 1);
        x.undo();
        x.pay(0, 5);
        x.save(0);
        x.undo();
        x.restore(0);
        check.due("what was saved last", x.member(0, 0), 5);
    }

    private static void exceptTheHistory() {
        check.about("everything except the pad, the slots and the history");
        HarpOrders x = new HarpOrders();
        for (int i = 0; i < 3; i++) {
            x.pay(0, 1);
        }
        check.due("undo", x.undo(), 2);
        check.due("undo", x.undo(), 1);
        x.pay(1, 1);
        check.due("changes", x.count(18), 2);
        check.due("undo", x.undo(), 1);
        check.due("account", x.member(0, 0), 1);
        check.due("undo", x.undo(), 0);
        check.due("account", x.member(0, 0), 0);
    }

    private static void sixStates() {
        check.about("A history of at most 6 states is kept");
        for (int changes = 0; changes <= 9; changes++) {
            HarpOrders x = new HarpOrders();
            for (int i = 0; i < changes; i++) {
                x.pay(0, 1);
            }
            int kept = Math.min(changes, 6);
            check.due("changes", x.count(18), kept);
            for (int i = kept - 1; i >= 0; i--) {
                check.due("undo", x.undo(), i);
            }
            check.due("no more", x.undo(), NOT_POSSIBLE);
            check.due("account", x.member(0, 0), changes - kept);
        }
    }

    private static void oldestIsDropped() {
        check.about("when one more is recorded, the oldest one is dropped");
        HarpOrders x = new HarpOrders();
        List<Integer> accounts = new ArrayList<>();
        for (int i = 1; i <= 20; i++) {
            accounts.add(x.member(0, 0));
            x.pay(0, i);
        }
        for (int back = 1; back <= 6; back++) {
            x.undo();
            check.due("the state " + back + " before", x.member(0, 0), accounts.get(20 - back));
        }
        check.due("none is left", x.undo(), NOT_POSSIBLE);
        x.pay(1, 7);
        check.due("one more", x.count(18), 1);
        check.due("undo", x.undo(), 0);
        check.due("account", x.member(0, 0), accounts.get(14));
    }

    private static void errorsRecordNothing() {
        check.about("each method that is a change, and returns no error, records the state before it");
        HarpOrders x = new HarpOrders();
        x.pay(0, 3);
        int[] errors = {x.set(0, 1), x.snap(0, 8), x.fit(0, 0, 0), x.want(0, 0, 21), x.read(), x.pay(0, 0),
            x.give(0, 1, 0, 1), x.send(1), x.pass(61), x.shuffle(-1), x.restore(0)};
        for (int error : errors) {
            check.holds("an error", error <= -100001 && error >= -100005);
        }
        check.due("changes", x.count(18), 1);
        check.due("undo", x.undo(), 0);
        check.due("the change before", x.member(0, 0), 0);
    }

    private static void nothingIsDifferent() {
        check.about("(also if nothing is different then)");
        HarpOrders x = new HarpOrders();
        x.set(0, 5);
        check.due("set", x.count(18), 1);
        x.want(0, 0, 0);
        check.due("want", x.count(18), 2);
        x.shuffle(1);
        check.due("shuffle", x.count(18), 3);
        x.save(0);
        x.restore(0);
        check.due("restore", x.count(18), 4);
        x.want(0, 0, 20);
        x.pay(0, 1000);
        x.undo();
        Check.put(x, "a0:1");
        x.read();
        check.due("read, above 20", x.count(18), 6);
        check.due("undo", x.undo(), 5);
        check.due("wanted still", x.strings(0, 0, true), 20);
        check.due("undo", x.undo(), 4);
        check.due("wanted no more", x.strings(0, 0, true), 0);
    }

    private static void noChanges() {
        check.about("each method that is a change: no others");
        HarpOrders x = new HarpOrders();
        x.pay(0, 100);
        x.member(0, 0);
        x.strings(0, 0, true);
        x.parcel(0, 0);
        x.count(0);
        x.order(63, 0);
        x.share(63, 0);
        x.ifMore(0, 0, 1);
        x.bestParting(0);
        x.standIn(0, 0);
        x.untilHome();
        x.put('a');
        x.wipe();
        x.fault();
        x.save(0);
        check.due("changes", x.count(18), 1);
        x.undo();
        check.due("undo is none", x.count(18), 0);
    }

    private static void undoOfNothing() {
        check.about("NOT_POSSIBLE if there is none.");
        HarpOrders x = new HarpOrders();
        check.due("at first", x.undo(), NOT_POSSIBLE);
        x.pay(0, 1);
        check.due("undo", x.undo(), 0);
        check.due("none any more", x.undo(), NOT_POSSIBLE);
        check.due("none still", x.undo(), NOT_POSSIBLE);
        check.due("account", x.member(0, 0), 0);
        check.due("changes", x.count(18), 0);
    }

    private static void undoneThen() {
        check.about("Returns how many changes can be undone then");
        HarpOrders x = new HarpOrders();
        for (int i = 0; i < 7; i++) {
            x.pay(0, 1);
        }
        for (int i = 5; i >= 0; i--) {
            check.due("undo", x.undo(), i);
            check.due("count(18)", x.count(18), i);
        }
    }

    private static void undoOfParcels() {
        check.about("Undoes the latest change: parcels and x");
        HarpOrders x = Clubs.strict();
        x.set(Clubs.BREAK, 100);
        for (int i = 0; i < 5; i++) {
            x.want(i, i, 3);
            x.send(1 << i);
        }
        String before = Check.lookAtClub(x);
        x.pass(1);
        String opened = Check.lookAtClub(x);
        x.pass(7);
        check.due("all are home", x.count(11), 0);
        Clubs.sendOne(x, 5);
        x.undo();
        x.undo();
        x.undo();
        check.holds("opened again", opened.equals(Check.lookAtClub(x)));
        x.undo();
        check.holds("on their way again", before.equals(Check.lookAtClub(x)));
        x.pass(1);
        check.holds("the same is drawn again", opened.equals(Check.lookAtClub(x)));
    }

    private static void slots() {
        check.about("slot: 0 or 1");
        HarpOrders x = new HarpOrders();
        for (int slot : new int[] {MIN, -1, 2, 3, MAX}) {
            check.due("save(" + slot + ")", x.save(slot), BAD_VALUE);
        }
        check.due("save(0)", x.save(0), 0);
        check.due("save(1)", x.save(1), 0);
    }

    private static void saveReturnsTheDay() {
        check.about("save: Returns the day");
        HarpOrders x = new HarpOrders();
        check.due("the day 0", x.save(0), 0);
        x.pass(60);
        check.due("the day 60", x.save(1), 60);
        Clubs.toLastDay(x);
        check.due("the last day", x.save(0), 9999);
    }

    private static void saveOverwrites() {
        check.about("and overwrites what was saved there");
        HarpOrders x = Clubs.strict();
        for (int i = 0; i < 5; i++) {
            Clubs.sendOne(x, i);
        }
        x.save(0);
        x.pass(8);
        x.save(0);
        x.pay(0, 1);
        x.restore(0);
        check.due("the day", x.count(9), 8);
        check.due("parcels", x.count(11), 0);
        check.due("account", x.member(5, 0), 0);
        check.due("spare", x.member(0, 2), 1);
    }

    private static void saveLeavesOut() {
        check.about("Saves everything except the pad, the history and the slots in a slot");
        HarpOrders x = inUse();
        String saved = Check.lookAtClub(x);
        int changes = x.count(18);
        x.save(0);
        check.due("it is no change", x.count(18), changes);
        check.due("the pad stays", x.count(17), 4);
        for (int which = 0; which < 10; which++) {
            change(x, which);
        }
        check.holds("all is different", !saved.equals(Check.lookAtClub(x)));
        x.restore(0);
        check.holds("as saved", saved.equals(Check.lookAtClub(x)));
        check.due("the pad is not of it", x.count(17), 0);
    }

    private static void twoSlots() {
        check.about("Saves ... in a slot: not in the other");
        HarpOrders x = new HarpOrders();
        x.save(0);
        check.due("the other one", x.restore(1), NOT_POSSIBLE);
        x.pay(0, 1);
        x.save(1);
        x.pay(0, 1);
        x.restore(0);
        check.due("slot 0", x.member(0, 0), 0);
        x.restore(1);
        check.due("slot 1", x.member(0, 0), 1);
        HarpOrders y = new HarpOrders();
        y.save(1);
        check.due("the other one", y.restore(0), NOT_POSSIBLE);
    }

    private static void noSuchSlot() {
        check.about("restore: BAD_VALUE if there is no such slot");
        HarpOrders x = new HarpOrders();
        x.save(0);
        x.save(1);
        for (int slot : new int[] {MIN, -1, 2, 3, MAX}) {
            check.due("restore(" + slot + ")", x.restore(slot), BAD_VALUE);
        }
        check.due("restore(0)", x.restore(0), 0);
        check.due("restore(1)", x.restore(1), 0);
    }

    private static void nothingSaved() {
        check.about("NOT_POSSIBLE if nothing was saved in it.");
        HarpOrders x = new HarpOrders();
        x.pay(0, 1);
        check.due("slot 0", x.restore(0), NOT_POSSIBLE);
        check.due("slot 1", x.restore(1), NOT_POSSIBLE);
        check.due("account", x.member(0, 0), 1);
        check.due("changes", x.count(18), 1);
    }

    private static void slotKeepsIt() {
        check.about("Restores what was saved last in a slot, which keeps it.");
        HarpOrders x = Clubs.strict();
        Clubs.sendOne(x, 3);
        x.snap(2, 2);
        String saved = Check.lookAtClub(x);
        x.save(1);
        for (int i = 0; i < 2; i++) {
            x.pass(20);
            x.pay(0, 1);
            x.snap(2, 3);
            x.want(3, 3, 3);
            x.restore(1);
        }
        check.holds("as saved, twice", saved.equals(Check.lookAtClub(x)));
    }

    private static void restoreIsAChange() {
        check.about("restore: This is a change.");
        HarpOrders x = inUse();
        x.pass(3);
        String before = Check.lookAtClub(x);
        int day = x.restore(1);
        check.due("changes", x.count(18), 6);
        check.due("undo", x.undo(), 5);
        check.holds("as before", before.equals(Check.lookAtClub(x)));
        check.due("the day before", x.count(9), day + 3);
    }

    private static void restoreLeavesOut() {
        check.about("restore: everything except the pad, the history and the slots");
        HarpOrders x = new HarpOrders();
        Check.put(x, "a0:1");
        x.pay(0, 1);
        x.pay(0, 1);
        x.save(0);
        x.pay(0, 1);
        x.save(1);
        Check.put(x, ";b1:1");
        x.restore(0);
        check.due("the pad stays", x.count(17), 9);
        check.due("the history goes on", x.count(18), 4);
        x.restore(1);
        check.due("the other slot stays", x.member(0, 0), 3);
        for (int due : new int[] {2, 3, 2, 1, 0}) {
            x.undo();
            check.due("account", x.member(0, 0), due);
        }
    }

    private static void restoreReturnsTheDay() {
        check.about("restore: Returns the day then");
        HarpOrders x = new HarpOrders();
        x.pass(7);
        x.save(0);
        x.pass(60);
        check.due("restore", x.restore(0), 7);
        check.due("the day", x.count(9), 7);
        x.pass(60);
        check.due("restore", x.restore(0), 7);
    }
}
