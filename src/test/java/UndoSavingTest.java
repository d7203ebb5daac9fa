/** Promises 25 to 27: undo, save and restore. */
public final class UndoSavingTest {
    private static final int NO_SUCH = -100001, BAD_VALUE = -100002, NOT_POSSIBLE = -100005;
    private static final Check check = new Check();

    public static void main(String[] args) {
        promise25Undo();
        promise25EachChange();
        promise25NoChange();
        promise25PadAndSlots();
        promise26Save();
        promise27Restore();
        check.end();
    }

    private static void promise25Undo() {
        check.about("25 undo");
        HarpOrders x = new HarpOrders();
        check.due("undo()", x.undo(), NOT_POSSIBLE);
        for (int i = 1; i <= 8; i++) {
            x.pay(0, i);
            check.due("changes", x.count(18), Math.min(i, 6));
        }
        int account = 36;
        for (int i = 8; i > 2; i--) {
            check.due("undo()", x.undo(), i - 3);
            account -= i;
            check.due("account", x.member(0, 0), account);
        }
        check.due("undo()", x.undo(), NOT_POSSIBLE);
        check.due("account", x.member(0, 0), 3);
        x.pay(0, 10);
        check.due("undo()", x.undo(), 0);
        check.due("account", x.member(0, 0), 3);
        x.pay(0, 1);
        x.pay(0, 1);
        x.undo();
        x.pay(1, 5);
        x.undo();
        check.due("account of 1", x.member(1, 0), 0);
        check.due("account of 0", x.member(0, 0), 4);
        check.due("undo()", x.undo(), 0);
        check.due("account", x.member(0, 0), 3);
    }

    /** A club in which each change makes a difference. */
    private static HarpOrders inUse() {
        HarpOrders x = new HarpOrders();
        x.set(7, 0);
        x.pay(0, 1000);
        x.want(0, 0, 5);
        x.send(1);
        x.pass(5);
        x.snap(0, 1);
        x.set(7, 100);
        x.set(8, 100);
        x.set(5, 0);
        x.want(1, 2, 3);
        x.want(2, 3, 3);
        x.send(2);
        x.pass(1);
        x.send(4);
        x.want(3, 4, 2);
        x.save(0);
        x.want(3, 4, 3);
        Check.put(x, "f5:2");
        return x;
    }

    private static int change(HarpOrders x, int which) {
        switch (which) {
            case 0: return x.set(0, 2);
            case 1: return x.snap(5, 5);
            case 2: return x.fit(0, 1, 0);
            case 3: return x.want(4, 4, 4);
            case 4: return x.read();
            case 5: return x.pay(5, 100);
            case 6: return x.give(0, 1, 0, 2);
            case 7: return x.send(8);
            case 8: return x.pass(4);
            case 9: return x.pass(60);
            case 10: return x.shuffle(5);
            default: return x.restore(0);
        }
    }

    private static void promise25EachChange() {
        check.about("25 undo, each change");
        for (int which = 0; which <= 11; which++) {
            HarpOrders x = inUse();
            String before = Check.lookAtClub(x);
            check.holds("no error of " + which, change(x, which) > -100000);
            check.holds("a difference of " + which, !before.equals(Check.lookAtClub(x)));
            check.due("changes", x.count(18), 6);
            check.due("undo of " + which, x.undo(), 5);
            check.holds("as before " + which, before.equals(Check.lookAtClub(x)));
            if (which == 4) {
                check.due("the pad is as it was left", x.count(17), 0);
                Check.put(x, "f5:2");
            }
            for (int i = 0; i < 6; i++) {
                change(x, which == i ? 5 : i);
            }
            for (int i = 0; i < 6; i++) {
                x.undo();
            }
            check.holds("six changes back " + which, before.equals(Check.lookAtClub(x)));
        }
    }

    private static void promise25NoChange() {
        check.about("25 undo, no change");
        HarpOrders x = new HarpOrders();
        x.set(9, 0);
        x.snap(6, 0);
        x.fit(0, 0, 0);
        x.want(0, 0, 21);
        x.read();
        x.pay(0, 0);
        x.give(0, 1, 0, 1);
        x.send(63);
        x.pass(0);
        x.shuffle(-1);
        x.restore(0);
        x.restore(2);
        check.due("errors are no changes", x.count(18), 0);
        x.put('a');
        x.wipe();
        x.fault();
        x.save(1);
        x.order(63, 0);
        x.untilHome();
        check.due("neither are these", x.count(18), 0);
        x.set(0, 5);
        x.shuffle(1);
        x.want(0, 0, 0);
        check.due("the same value is a change", x.count(18), 3);
        check.due("undo()", x.undo(), 2);
    }

    private static void promise25PadAndSlots() {
        check.about("25 undo, the pad and the slots");
        HarpOrders x = new HarpOrders();
        x.pay(0, 5);
        x.save(0);
        Check.put(x, "a0:1");
        x.undo();
        check.due("the pad stays", x.count(17), 4);
        check.due("the slot stays", x.restore(0), 0);
        check.due("account", x.member(0, 0), 5);
        check.due("undo of restore", x.undo(), 0);
        check.due("account", x.member(0, 0), 0);
        x.restore(0);
        x.pay(0, 7);
        x.save(0);
        x.undo();
        x.undo();
        x.restore(0);
        check.due("what was saved last", x.member(0, 0), 12);
    }

    private static void promise26Save() {
        check.about("26 save");
        HarpOrders x = inUse();
        check.due("save(-1)", x.save(-1), BAD_VALUE);
        check.due("save(2)", x.save(2), BAD_VALUE);
        String first = Check.lookAtClub(x);
        int changes = x.count(18);
        check.due("save(1)", x.save(1), 6);
        check.due("it is no change", x.count(18), changes);
        x.pass(60);
        x.want(0, 7, 3);
        x.shuffle(99);
        x.snap(4, 4);
        String second = Check.lookAtClub(x);
        check.due("save(0)", x.save(0), 66);
        x.restore(1);
        check.holds("the first one", first.equals(Check.lookAtClub(x)));
        x.restore(0);
        check.holds("the second one", second.equals(Check.lookAtClub(x)));
        check.due("save(1)", x.save(1), 66);
        x.pass(3);
        x.restore(1);
        check.holds("it was overwritten", second.equals(Check.lookAtClub(x)));
    }

    private static void promise27Restore() {
        check.about("27 restore");
        HarpOrders x = inUse();
        check.due("restore(-1)", x.restore(-1), BAD_VALUE);
        check.due("restore(2)", x.restore(2), BAD_VALUE);
        check.due("restore(1)", x.restore(1), NOT_POSSIBLE);
        x.save(1);
        String saved = Check.lookAtClub(x);
        for (int round = 0; round < 3; round++) {
            x.pass(2);
            x.pay(3, 50);
            Check.put(x, "!");
            check.due("restore(1)", x.restore(1), 6);
            check.holds("as saved", saved.equals(Check.lookAtClub(x)));
            check.due("the pad stays", x.count(17), 5 + round);
        }
        check.due("a change", x.count(18), 6);
        check.due("undo()", x.undo(), 5);
        check.due("the day before", x.count(9), 8);
        check.due("NO_SUCH", HarpOrders.NO_SUCH, NO_SUCH);
    }
}
