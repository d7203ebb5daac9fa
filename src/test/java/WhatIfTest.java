/** Promises 16 to 21: what if; nothing changes. */
public final class WhatIfTest {
    private static final int NO_SUCH = -100001, BAD_VALUE = -100002, NONE = -100006;
    private static final Check check = new Check();

    public static void main(String[] args) {
        promise16Order();
        promise17Share();
        promise18IfMore();
        promise19BestParting();
        promise19Ties();
        promise19LastAlone();
        promise20StandIn();
        promise21UntilHome();
        nothingChanges();
        check.end();
    }

    private static void promise16Order() {
        check.about("16 order");
        HarpOrders x = new HarpOrders();
        check.due("order(-1, 0)", x.order(-1, 0), BAD_VALUE);
        check.due("order(64, 0)", x.order(64, 0), BAD_VALUE);
        check.due("order(0, -1)", x.order(0, -1), BAD_VALUE);
        check.due("order(0, 5)", x.order(0, 5), BAD_VALUE);
        for (int what = 0; what <= 4; what++) {
            check.due("of nothing", x.order(63, what), 0);
        }
        x.want(0, 4, 4);
        x.want(1, 4, 1);
        x.want(5, 7, 2);
        check.due("value, below TIER", x.order(1, 1), 120);
        check.due("value, TIER together", x.order(3, 1), 120);
        check.due("value", x.order(63, 1), 210);
        check.due("post", x.order(63, 2), 20 + 25 + 16);
        check.due("cost", x.order(63, 0), 271);
        check.due("strings", x.order(63, 3), 7);
        check.due("duty", x.order(63, 4), 22);
        check.due("duty, rounded down", x.order(3, 4), 4);
        check.due("duty below FREE", x.order(32, 4), 0);
        check.due("post of others", x.order(28, 2), 0);
        check.due("the empty set", x.order(0, 0), 0);
        x.set(0, 6);
        check.due("value, below TIER", x.order(3, 1), 150);
        x.set(2, 0);
        check.due("post without HEAVY", x.order(63, 2), 20);
        x.set(1, 99);
        x.set(2, 9);
        check.due("post", x.order(32, 2), 99 + 144);
        x.set(5, 0);
        x.set(6, 33);
        check.due("duty", x.order(1, 4), 39);
    }

    private static void promise17Share() {
        check.about("17 share");
        HarpOrders x = new HarpOrders();
        check.due("share(64, 6)", x.share(64, 6), NO_SUCH);
        check.due("share(0, -1)", x.share(0, -1), NO_SUCH);
        check.due("share(-1, 0)", x.share(-1, 0), BAD_VALUE);
        check.due("share(64, 0)", x.share(64, 0), BAD_VALUE);
        check.due("of nothing", x.share(63, 0), 0);
        x.want(1, 0, 1);
        x.want(2, 0, 4);
        x.want(3, 5, 1);
        x.want(4, 1, 1);
        // 5 * 8 + 35 + 15; post 20 + 13 by 1, 4, 6, 2: 2, 10, 15, 5 and a penny.
        check.due("share of 1", x.share(30, 1), 8 + 3);
        check.due("share of 2", x.share(30, 2), 32 + 10);
        check.due("share of 3", x.share(30, 3), 35 + 15);
        check.due("share of 4", x.share(30, 4), 15 + 5);
        check.due("wants nothing", x.share(63, 0), 0);
        check.due("not of them", x.share(28, 1), 0);
        // Without 1 no TIER; post 20 + 12 by 4, 6, 2: 10, 16, 5 and a penny.
        check.due("share of 2", x.share(28, 2), 40 + 11);
        check.due("share of 3", x.share(28, 3), 35 + 16);
        check.due("not of an empty set", x.share(0, 1), 0);
        x.want(1, 0, 0);
        check.due("of members who want nothing, after others", x.share(28, 4) > 0 ? x.share(2, 1) : -1, 0);
        check.due("share(16, 4)", x.share(16, 4), 15 + 22);
        x.want(4, 1, 0);
        check.due("wants nothing any more", x.share(16, 4), 0);
        x.set(1, 99);
        x.set(2, 9);
        int all = 0;
        for (int member = 0; member < 6; member++) {
            all += x.share(63, member);
        }
        check.due("all shares together", all, x.order(63, 0));
    }

    private static void promise18IfMore() {
        check.about("18 ifMore");
        HarpOrders x = new HarpOrders();
        check.due("ifMore(-1, 0, 0)", x.ifMore(-1, 0, 0), NO_SUCH);
        check.due("ifMore(6, 0, 1)", x.ifMore(6, 0, 1), NO_SUCH);
        check.due("ifMore(0, 8, 21)", x.ifMore(0, 8, 21), NO_SUCH);
        check.due("ifMore(0, -1, 1)", x.ifMore(0, -1, 1), NO_SUCH);
        check.due("ifMore(0, 0, 0)", x.ifMore(0, 0, 0), BAD_VALUE);
        check.due("ifMore(0, 0, 21)", x.ifMore(0, 0, 21), BAD_VALUE);
        check.due("the first string", x.ifMore(0, 0, 1), 31);
        check.due("twenty", x.ifMore(5, 7, 20), 720 + 20 + 160);
        x.want(0, 7, 4);
        // From 4 * 45 to 5 * 36, and 8 more for the weight.
        check.due("into TIER", x.ifMore(3, 7, 1), 8);
        x.set(2, 0);
        x.set(0, 20);
        x.want(0, 7, 19);
        check.due("less", x.ifMore(0, 7, 1), 20 * 36 - 19 * 45);
        x.want(0, 7, 20);
        check.due("above 20", x.ifMore(0, 7, 20), 20 * 36);
        check.due("another gauge", x.ifMore(0, 6, 2), 80);
        check.due("wants stay", x.member(0, 3), 20);
    }

    private static void promise19BestParting() {
        check.about("19 bestParting");
        HarpOrders x = new HarpOrders();
        check.due("bestParting(-1)", x.bestParting(-1), BAD_VALUE);
        check.due("bestParting(2)", x.bestParting(2), BAD_VALUE);
        check.due("the set of nothing", x.bestParting(0), 0);
        check.due("the pence of nothing", x.bestParting(1), 0);
        x.set(1, 0);
        x.set(2, 0);
        x.set(6, 50);
        x.set(5, 90);
        x.want(0, 7, 2);
        x.want(5, 7, 2);
        // Alone each is worth no duty: 180, and not 180 + 45.
        check.due("set", x.bestParting(0), 1);
        check.due("pence", x.bestParting(1), 180);
        x.want(2, 0, 1);
        // Members 0 and 5 apart, and the string of 2 with either: 190 + 5.
        check.due("set", x.bestParting(0), 1);
        check.due("pence", x.bestParting(1), 195);
        x.want(2, 0, 0);
        x.want(3, 6, 2);
        x.want(0, 7, 1);
        // 45, 90 and 80 with nothing free above 90 each: 45 + 80 with 90 (17), 45 + 90 with 80 (22).
        check.due("set", x.bestParting(0), 9);
        check.due("pence", x.bestParting(1), 215 + 17);
        x.set(1, 17);
        check.due("the post of two parcels is dearer, but less than the duty", x.bestParting(0), 9);
        x.set(1, 99);
        check.due("the post of two parcels is dearer", x.bestParting(0), 0);
        check.due("pence", x.bestParting(1), 215 + 99 + 62);
    }

    private static void promise19Ties() {
        check.about("19 bestParting, the least set");
        HarpOrders x = new HarpOrders();
        x.set(1, 0);
        x.set(2, 0);
        x.set(6, 0);
        for (int member = 0; member < 6; member++) {
            x.want(member, member, 1);
        }
        check.due("all part alike", x.bestParting(0), 0);
        x.set(0, 2);
        x.want(3, 7, 1);
        x.want(4, 7, 1);
        check.due("together for TIER", x.bestParting(0), 0);
        check.due("pence", x.bestParting(1), 10 + 15 + 20 + 25 + 30 + 35 + 72);
        x.set(5, 0);
        x.set(6, 50);
        x.set(1, 20);
        check.due("duty is the same, and the post dearer", x.bestParting(0), 0);
    }

    private static void promise19LastAlone() {
        check.about("19 bestParting, the last one alone");
        HarpOrders x = new HarpOrders();
        x.set(1, 0);
        x.set(2, 0);
        x.set(5, 45);
        x.set(6, 50);
        x.want(5, 7, 1);
        for (int member = 0; member < 5; member++) {
            x.want(member, 0, 1);
        }
        check.due("set", x.bestParting(0), 31);
        check.due("pence", x.bestParting(1), 85);
    }

    private static void promise20StandIn() {
        check.about("20 standIn");
        HarpOrders x = new HarpOrders();
        check.due("standIn(-1, 0)", x.standIn(-1, 0), NO_SUCH);
        check.due("standIn(6, 0)", x.standIn(6, 0), NO_SUCH);
        check.due("standIn(0, -1)", x.standIn(0, -1), NO_SUCH);
        check.due("standIn(0, 8)", x.standIn(0, 8), NO_SUCH);
        x.set(7, 0);
        x.want(0, 0, 1);
        x.want(0, 1, 1);
        x.want(0, 2, 1);
        x.want(0, 7, 1);
        x.want(1, 6, 1);
        x.pay(0, 1000);
        x.send(63);
        x.pass(5);
        check.due("whole", x.standIn(0, 1), NONE);
        for (int string = 0; string < 8; string++) {
            x.snap(0, string);
            x.snap(1, string);
        }
        check.due("its own", x.standIn(0, 1), 1);
        check.due("1 less", x.standIn(0, 3), 2);
        check.due("none that does", x.standIn(0, 4), NONE);
        check.due("1 more", x.standIn(0, 6), 7);
        check.due("the first, its own", x.standIn(0, 0), 0);
        check.due("the last, its own", x.standIn(0, 7), 7);
        check.due("the last, 1 less", x.standIn(1, 7), 6);
        x.fit(0, 1, 1);
        x.snap(0, 1);
        check.due("1 less before 1 more", x.standIn(0, 1), 0);
        x.fit(0, 0, 0);
        x.snap(0, 0);
        check.due("1 more", x.standIn(0, 1), 2);
        check.due("the first, none", x.standIn(0, 0), NONE);
        x.fit(0, 7, 7);
        x.snap(0, 7);
        check.due("the last, none", x.standIn(0, 7), NONE);
    }

    private static void promise21UntilHome() {
        check.about("21 untilHome");
        HarpOrders x = new HarpOrders();
        check.due("without parcels", x.untilHome(), 0);
        x.pay(0, 1000);
        x.want(0, 0, 1);
        x.send(1);
        check.due("38 is below 50: opened", x.untilHome(), 12);
        x.set(7, 38);
        check.due("38 is not below 38", x.untilHome(), 5);
        x.set(7, 50);
        x.pass(2);
        x.want(0, 0, 1);
        x.send(1);
        // The second draws 13: it is opened, too.
        check.due("the latest", x.untilHome(), 12);
        x.set(7, 0);
        check.due("none is opened", x.untilHome(), 5);
        x.set(7, 100);
        x.set(4, 30);
        x.set(3, 20);
        x.want(0, 0, 1);
        x.send(1);
        check.due("the longest", x.untilHome(), 50);
        check.due("x stays", x.count(16), 1);
        check.due("pass(49)", x.pass(49), 2);
        check.due("tomorrow", x.untilHome(), 1);
        check.due("pass(1)", x.pass(1), 1);
        check.due("without parcels", x.untilHome(), 0);
        for (int i = 0; i < 165; i++) {
            x.pass(60);
        }
        x.pass(47);
        x.want(0, 0, 1);
        check.due("day", x.count(9), 9999);
        x.send(1);
        check.due("above 9999", x.untilHome(), 50);
    }

    private static void nothingChanges() {
        check.about("16 to 21, nothing changes");
        HarpOrders x = new HarpOrders();
        x.pay(0, 1000);
        x.want(0, 0, 3);
        x.want(4, 5, 7);
        x.send(1);
        x.snap(4, 4);
        Check.put(x, "a0:1;");
        String before = Check.look(x);
        x.order(63, 0);
        x.share(63, 4);
        x.ifMore(1, 1, 20);
        x.bestParting(0);
        x.standIn(4, 4);
        x.untilHome();
        check.holds("all is as before", before.equals(Check.look(x)));
        check.due("the order stays", x.order(63, 0), 7 * 28 + 20 + 42);
    }
}
