/** Promises 3, 4, 7, 8, 12, 13, 15 and 20: the bounds that their sentences name, one method for each sentence. */
public final class MembersBoundsTest {
    private static final int NO_SUCH = -100001, BAD_VALUE = -100002, NOT_POSSIBLE = -100005, NONE = -100006;
    private static final int MIN = Integer.MIN_VALUE, MAX = Integer.MAX_VALUE;
    private static final Check check = new Check();

    public static void main(String[] args) {
        brokenThen();
        snapNoSuch();
        snapBroken();
        fitGauges();
        fitAtTheEnds();
        fitNoSuch();
        fitWhole();
        fitWithoutSpare();
        fitLeft();
        penceToPay();
        payNoSuch();
        accountThen();
        manyToGive();
        giveNoSuch();
        giveToItself();
        hasNotSoMany();
        otherAbove99();
        priceToGive();
        memberNoSuch();
        memberWhat();
        memberPaid();
        memberLost();
        stringsNoSuch();
        stringsWantedOrSpare();
        countWhat();
        countOpenedSoFar();
        countChanges();
        standInOrder();
        standInAtTheEnds();
        standInNone();
        standInNoSuch();
        check.end();
    }

    private static void brokenThen() {
        check.about("Returns how many strings of this harp are broken then");
        HarpOrders x = new HarpOrders();
        x.snap(1, 0);
        for (int string = 0; string < 8; string++) {
            check.due("snap", x.snap(0, string), string + 1);
        }
        check.due("all eight", x.member(0, 1), 255);
        check.due("of the other harp", x.snap(1, 7), 2);
    }

    private static void snapNoSuch() {
        check.about("snap: NO_SUCH if there is no such member or string");
        HarpOrders x = new HarpOrders();
        for (int member : new int[] {MIN, -1, 6, 7, MAX}) {
            check.due("snap(" + member + ", 0)", x.snap(member, 0), NO_SUCH);
        }
        for (int string : new int[] {MIN, -1, 8, 32, MAX}) {
            check.due("snap(0, " + string + ")", x.snap(0, string), NO_SUCH);
            check.due("snap(5, " + string + ")", x.snap(5, string), NO_SUCH);
        }
        check.due("snap(0, 0)", x.snap(0, 0), 1);
        check.due("snap(5, 7)", x.snap(5, 7), 1);
    }

    private static void snapBroken() {
        check.about("snap: NOT_POSSIBLE if it is broken.");
        HarpOrders x = Clubs.quick();
        Clubs.stock(x, 0, 7, 1);
        check.due("snap", x.snap(0, 7), 1);
        check.due("snap again", x.snap(0, 7), NOT_POSSIBLE);
        check.due("of another member", x.snap(1, 7), 1);
        check.due("another string", x.snap(0, 6), 2);
        check.due("fit", x.fit(0, 7, 7), 0);
        check.due("snap, whole again", x.snap(0, 7), 2);
    }

    /** A club whose member 0 has two spare strings of each gauge, and a harp with all strings broken. */
    private static HarpOrders stringless() {
        HarpOrders x = Clubs.quick();
        for (int gauge = 0; gauge < 8; gauge++) {
            x.want(0, gauge, 2);
        }
        x.pay(0, 1000);
        x.send(1);
        x.pass(1);
        for (int string = 0; string < 8; string++) {
            x.snap(0, string);
        }
        return x;
    }

    private static void fitGauges() {
        check.about("a broken string is replaced by a spare one, whose gauge is the number of the string, or 1 less or more");
        for (int string = 0; string < 8; string++) {
            for (int gauge = 0; gauge < 8; gauge++) {
                HarpOrders x = stringless();
                boolean does = gauge >= string - 1 && gauge <= string + 1;
                check.due("fit(0, " + string + ", " + gauge + ")", x.fit(0, string, gauge), does ? 1 : NOT_POSSIBLE);
                check.due("spare", x.strings(0, gauge, false), does ? 1 : 2);
                check.due("broken", x.member(0, 1), does ? 255 - (1 << string) : 255);
            }
        }
    }

    private static void fitAtTheEnds() {
        check.about("whose gauge is the number of the string, or 1 less or more: at both ends");
        HarpOrders x = stringless();
        check.due("1 less than 0", x.fit(0, 0, -1), NO_SUCH);
        check.due("1 more than 7", x.fit(0, 7, 8), NO_SUCH);
        check.due("string 0 by gauge 1", x.fit(0, 0, 1), 1);
        check.due("string 7 by gauge 6", x.fit(0, 7, 6), 1);
    }

    private static void fitNoSuch() {
        check.about("fit: NO_SUCH if there is no such member, string or gauge");
        HarpOrders x = stringless();
        for (int member : new int[] {MIN, -1, 6, MAX}) {
            check.due("member " + member, x.fit(member, 0, 0), NO_SUCH);
        }
        for (int no : new int[] {MIN, -1, 8, MAX}) {
            check.due("string " + no, x.fit(0, no, 7), NO_SUCH);
            check.due("gauge " + no, x.fit(0, 7, no), NO_SUCH);
            check.due("both " + no, x.fit(0, no, no), NO_SUCH);
        }
        check.due("broken", x.member(0, 1), 255);
    }

    private static void fitWhole() {
        check.about("NOT_POSSIBLE if the string is whole");
        HarpOrders x = stringless();
        check.due("broken", x.fit(0, 4, 4), 1);
        check.due("whole", x.fit(0, 4, 4), NOT_POSSIBLE);
        check.due("whole, another gauge", x.fit(0, 4, 5), NOT_POSSIBLE);
        check.due("another string is broken", x.fit(0, 5, 5), 1);
    }

    private static void fitWithoutSpare() {
        check.about("NOT_POSSIBLE if the member has none");
        HarpOrders x = stringless();
        check.due("fit", x.fit(0, 2, 2), 1);
        check.due("fit, the last one", x.fit(0, 3, 2), 0);
        check.due("fit, none", x.fit(0, 1, 2), NOT_POSSIBLE);
        check.due("fit, of another gauge", x.fit(0, 1, 1), 1);
        x.snap(1, 4);
        check.due("fit, none of its own", x.fit(1, 4, 4), NOT_POSSIBLE);
        check.due("those of the other stay", x.strings(0, 4, false), 2);
    }

    private static void fitLeft() {
        check.about("Returns how many spare strings of this gauge the member has then");
        HarpOrders x = Clubs.quick();
        Clubs.stock(x, 5, 7, 99);
        Clubs.stock(x, 5, 6, 3);
        x.snap(5, 7);
        check.due("98 are left", x.fit(5, 7, 7), 98);
        x.snap(5, 7);
        check.due("2 of the other gauge", x.fit(5, 7, 6), 2);
    }

    private static void penceToPay() {
        check.about("1 to 1000");
        HarpOrders x = new HarpOrders();
        for (int pence : new int[] {MIN, -1000, -1, 0, 1001, 1002, MAX}) {
            check.due("pay(0, " + pence + ")", x.pay(0, pence), BAD_VALUE);
        }
        check.due("1", x.pay(0, 1), 1);
        check.due("1000", x.pay(0, 1000), 1001);
        check.due("999", x.pay(0, 999), 2000);
    }

    private static void payNoSuch() {
        check.about("pay: NO_SUCH if there is no such member");
        HarpOrders x = new HarpOrders();
        for (int member : new int[] {MIN, -1, 6, MAX}) {
            check.due("pay(" + member + ", 1)", x.pay(member, 1), NO_SUCH);
            check.due("pay(" + member + ", 0)", x.pay(member, 0), NO_SUCH);
        }
        check.due("pay(0, 1)", x.pay(0, 1), 1);
        check.due("pay(5, 1)", x.pay(5, 1), 1);
        check.due("the chest", x.count(10), 2);
    }

    private static void accountThen() {
        check.about("Returns its account then: as often as an object is called");
        HarpOrders x = new HarpOrders();
        for (int i = 1; i <= 511; i++) {
            check.due("account", x.pay(3, 1000), 1000 * i);
        }
        check.due("the chest, in the 512th call", x.count(10), 511000);
    }

    /** A club whose member 0 has 40 spare strings of the gauge 7. */
    private static HarpOrders rich() {
        HarpOrders x = Clubs.quick();
        Clubs.stock(x, 0, 7, 40);
        return x;
    }

    private static void manyToGive() {
        check.about("give: 1 to 20");
        HarpOrders x = rich();
        for (int many : new int[] {MIN, -20, -1, 0, 21, 40, MAX}) {
            check.due("give " + many, x.give(0, 1, 7, many), BAD_VALUE);
        }
        int account = x.member(0, 0);
        check.due("give 1", x.give(0, 1, 7, 1), account + 45);
        check.due("give 20", x.give(0, 1, 7, 20), account + 21 * 45);
        check.due("those of the one", x.strings(0, 7, false), 19);
        check.due("those of the other", x.strings(1, 7, false), 21);
    }

    private static void giveNoSuch() {
        check.about("give: NO_SUCH if there is no such member or gauge");
        HarpOrders x = rich();
        for (int member : new int[] {MIN, -1, 6, MAX}) {
            check.due("from " + member, x.give(member, 0, 7, 1), NO_SUCH);
            check.due("to " + member, x.give(0, member, 7, 1), NO_SUCH);
            check.due("both " + member, x.give(member, member, 7, 1), NO_SUCH);
        }
        for (int gauge : new int[] {MIN, -1, 8, MAX}) {
            check.due("gauge " + gauge, x.give(0, 1, gauge, 1), NO_SUCH);
            check.due("gauge " + gauge + ", both the same", x.give(0, 0, gauge, 0), NO_SUCH);
        }
        check.holds("to the last one", x.give(0, 5, 7, 1) > -100000);
        check.holds("and back", x.give(5, 0, 7, 1) > -100000);
        check.due("all are there", x.strings(0, 7, false), 40);
    }

    private static void giveToItself() {
        check.about("BAD_VALUE if both members are the same");
        HarpOrders x = rich();
        for (int member = 0; member < 6; member++) {
            check.due("give(" + member + ", " + member + ")", x.give(member, member, 7, 1), BAD_VALUE);
        }
        check.due("they stay", x.strings(0, 7, false), 40);
    }

    private static void hasNotSoMany() {
        check.about("NOT_POSSIBLE if it has not so many");
        HarpOrders x = Clubs.quick();
        check.due("none", x.give(0, 1, 0, 1), NOT_POSSIBLE);
        Clubs.stock(x, 0, 0, 7);
        check.due("one more than it has", x.give(0, 1, 0, 8), NOT_POSSIBLE);
        check.due("of another gauge", x.give(0, 1, 1, 1), NOT_POSSIBLE);
        check.holds("all that it has", x.give(0, 1, 0, 7) > -100000);
        check.due("none is left", x.strings(0, 0, false), 0);
        check.due("none", x.give(0, 1, 0, 1), NOT_POSSIBLE);
    }

    private static void otherAbove99() {
        check.about("NOT_POSSIBLE if the other one would have more than 99.");
        HarpOrders x = Clubs.quick();
        Clubs.stock(x, 0, 0, 10);
        Clubs.stock(x, 0, 1, 10);
        Clubs.stock(x, 1, 0, 96);
        check.due("100", x.give(0, 1, 0, 4), NOT_POSSIBLE);
        check.holds("99", x.give(0, 1, 0, 3) > -100000);
        check.due("spare", x.strings(1, 0, false), 99);
        check.due("100", x.give(0, 1, 0, 1), NOT_POSSIBLE);
        check.holds("of another gauge", x.give(0, 1, 1, 1) > -100000);
        check.due("none is lost", x.count(14), 0);
    }

    private static void priceToGive() {
        check.about("for their price (without regard to TIER), which goes from the account of the other one to its own");
        HarpOrders x = rich();
        int[] accounts = {x.member(0, 0), x.member(4, 0), x.count(10)};
        check.due("20, far above TIER", x.give(0, 4, 7, 20), accounts[0] + 900);
        check.due("the other one, below 0", x.member(4, 0), -900);
        check.due("the chest", x.count(10), accounts[2]);
        check.due("and back", x.give(4, 0, 7, 20), accounts[1]);
        check.due("the account that it had", x.member(0, 0), accounts[0]);
    }

    private static void memberNoSuch() {
        check.about("member: NO_SUCH if there is no such member; BAD_VALUE if what is out of range.");
        HarpOrders x = new HarpOrders();
        for (int member : new int[] {MIN, -1, 6, MAX}) {
            check.due("member(" + member + ", 0)", x.member(member, 0), NO_SUCH);
            check.due("member(" + member + ", 9)", x.member(member, 9), NO_SUCH);
        }
        for (int what : new int[] {MIN, -1, 9, MAX}) {
            check.due("member(0, " + what + ")", x.member(0, what), BAD_VALUE);
            check.due("member(5, " + what + ")", x.member(5, what), BAD_VALUE);
        }
        check.due("member(0, 0)", x.member(0, 0), 0);
        check.due("member(5, 8)", x.member(5, 8), 0);
    }

    private static void memberWhat() {
        check.about("0 its account, 1 its broken strings, as a set, 2 spare strings, how many, 3 strings that it wants, how many, 4 strings of it that are on their way");
        HarpOrders x = Clubs.quick();
        Clubs.stock(x, 1, 0, 2);
        Clubs.stock(x, 1, 7, 3);
        x.snap(1, 7);
        x.pay(0, 500);
        x.want(1, 1, 4);
        x.send(2);
        x.want(1, 2, 2);
        x.want(0, 3, 1);
        x.send(3);
        x.want(1, 0, 1);
        x.want(1, 7, 5);
        check.due("account", x.member(1, 0), 2000 - 20 - 135 - 60 - 40);
        check.due("broken", x.member(1, 1), 128);
        check.due("spare", x.member(1, 2), 5);
        check.due("wanted", x.member(1, 3), 6);
        check.due("on their way, in two parcels", x.member(1, 4), 6);
        check.due("on their way, of another", x.member(0, 4), 1);
        x.pass(1);
        check.due("none on their way", x.member(1, 4), 0);
        check.due("spare", x.member(1, 2), 11);
    }

    private static void memberPaid() {
        check.about("5 what it paid for strings so far, 6 for the post so far, 7 for duty so far");
        HarpOrders x = Clubs.strict();
        x.set(Clubs.BASE, 5);
        check.due("nothing so far", x.member(1, 5) + x.member(1, 6) + x.member(1, 7), 0);
        for (int i = 1; i <= 2; i++) {
            x.want(1, 0, 5);
            x.want(2, 7, 1);
            check.due("send", x.send(63), 90);
            check.due("strings of 1", x.member(1, 5), 40 * i);
            check.due("strings of 2", x.member(2, 5), 45 * i);
            // 5 by 5 and 8: 1.9 and 3.1, and a penny for the lowest.
            check.due("post of 1", x.member(1, 6), 2 * i);
            check.due("post of 2", x.member(2, 6), 3 * i);
            x.pass(8);
            // 17 by 50 and 45: 8.9 and 8.1, and a penny for the lowest.
            check.due("duty of 1", x.member(1, 7), 9 * i);
            check.due("duty of 2", x.member(2, 7), 8 * i);
        }
        check.due("nothing of another", x.member(0, 5) + x.member(0, 6) + x.member(0, 7), 0);
        check.due("account", x.member(1, 0), -2 * (40 + 2 + 9));
    }

    private static void memberLost() {
        check.about("8 strings of it that were lost so far, at the customs, or as they were above 99 at home");
        HarpOrders x = Clubs.quick();
        Clubs.stock(x, 3, 2, 98);
        x.set(Clubs.CHANCE, 100);
        x.set(Clubs.BREAK, 100);
        x.want(3, 2, 4);
        x.send(8);
        x.pass(1);
        check.due("at the customs", x.member(3, 8), 1);
        x.pass(7);
        check.due("98 and 3: two above 99 at home", x.member(3, 8), 3);
        check.due("spare", x.strings(3, 2, false), 99);
        check.due("all members", x.count(14), 3);
        check.due("none of another", x.member(2, 8), 0);
    }

    private static void stringsNoSuch() {
        check.about("strings: NO_SUCH if there is no such member or gauge.");
        HarpOrders x = new HarpOrders();
        for (boolean isWanted : new boolean[] {true, false}) {
            for (int member : new int[] {MIN, -1, 6, MAX}) {
                check.due("member " + member, x.strings(member, 0, isWanted), NO_SUCH);
            }
            for (int gauge : new int[] {MIN, -1, 8, MAX}) {
                check.due("gauge " + gauge, x.strings(5, gauge, isWanted), NO_SUCH);
            }
            check.due("the first", x.strings(0, 0, isWanted), 0);
            check.due("the last", x.strings(5, 7, isWanted), 0);
        }
    }

    private static void stringsWantedOrSpare() {
        check.about("whether those that it wants, otherwise its spare ones");
        HarpOrders x = Clubs.quick();
        Clubs.stock(x, 0, 0, 99);
        Clubs.stock(x, 5, 7, 1);
        x.want(0, 0, 1);
        x.want(5, 7, 20);
        check.due("wanted", x.strings(0, 0, true), 1);
        check.due("spare", x.strings(0, 0, false), 99);
        check.due("wanted", x.strings(5, 7, true), 20);
        check.due("spare", x.strings(5, 7, false), 1);
    }

    private static void countWhat() {
        check.about("count: BAD_VALUE if what is out of range.");
        HarpOrders x = new HarpOrders();
        for (int what : new int[] {MIN, -1, 19, 20, MAX}) {
            check.due("count(" + what + ")", x.count(what), BAD_VALUE);
        }
        check.due("the first", x.count(0), 5);
        check.due("the last", x.count(18), 0);
    }

    private static void countOpenedSoFar() {
        check.about("11 parcels on their way, 12 those that were opened so far");
        HarpOrders x = Clubs.strict();
        for (int i = 0; i < 5; i++) {
            Clubs.sendOne(x, i);
        }
        check.due("on their way", x.count(11), 5);
        check.due("none is opened", x.count(12), 0);
        x.pass(1);
        check.due("on their way, opened", x.count(11), 5);
        check.due("opened", x.count(12), 5);
        x.pass(7);
        check.due("home", x.count(11), 0);
        check.due("opened so far", x.count(12), 5);
        Clubs.sendOne(x, 0);
        x.pass(1);
        check.due("opened so far, one more", x.count(12), 6);
    }

    private static void countChanges() {
        check.about("17 the length of the pad, 18 how many changes can be undone");
        HarpOrders x = new HarpOrders();
        Check.put(x, "!".repeat(60));
        check.due("the longest pad", x.count(17), 60);
        for (int i = 1; i <= 8; i++) {
            x.pay(0, 1);
            check.due("changes", x.count(18), Math.min(i, 6));
        }
        for (int i = 5; i >= 0; i--) {
            x.undo();
            check.due("changes", x.count(18), i);
        }
        x.wipe();
        check.due("an empty pad", x.count(17), 0);
    }

    private static void standInOrder() {
        check.about("that of its own number, otherwise 1 less, otherwise 1 more");
        HarpOrders x = Clubs.quick();
        for (int gauge = 2; gauge <= 6; gauge++) {
            Clubs.stock(x, 0, gauge, 1);
        }
        x.snap(0, 4);
        check.due("its own", x.standIn(0, 4), 4);
        x.give(0, 1, 4, 1);
        check.due("1 less", x.standIn(0, 4), 3);
        x.give(0, 1, 3, 1);
        check.due("1 more", x.standIn(0, 4), 5);
        x.give(0, 1, 5, 1);
        check.due("2 less or more do not", x.standIn(0, 4), NONE);
        x.snap(1, 4);
        check.due("from the spare strings of its member", x.standIn(1, 4), 4);
    }

    private static void standInAtTheEnds() {
        check.about("1 less, otherwise 1 more: at both ends");
        HarpOrders x = Clubs.quick();
        Clubs.stock(x, 0, 1, 1);
        Clubs.stock(x, 1, 6, 1);
        for (int member = 0; member < 2; member++) {
            x.snap(member, 0);
            x.snap(member, 7);
        }
        check.due("string 0 by gauge 1", x.standIn(0, 0), 1);
        check.due("string 7 by none", x.standIn(0, 7), NONE);
        check.due("string 0 by none", x.standIn(1, 0), NONE);
        check.due("string 7 by gauge 6", x.standIn(1, 7), 6);
        Clubs.stock(x, 2, 0, 1);
        Clubs.stock(x, 2, 7, 1);
        for (int string = 0; string < 8; string++) {
            x.snap(2, string);
        }
        check.due("string 1 by gauge 0", x.standIn(2, 1), 0);
        check.due("string 6 by gauge 7", x.standIn(2, 6), 7);
        check.due("string 0 by gauge 0", x.standIn(2, 0), 0);
        check.due("string 7 by gauge 7", x.standIn(2, 7), 7);
    }

    private static void standInNone() {
        check.about("NONE if it is whole, or the member has none that does.");
        HarpOrders x = Clubs.quick();
        Clubs.stock(x, 0, 3, 1);
        for (int string = 0; string < 8; string++) {
            check.due("whole", x.standIn(0, string), NONE);
        }
        for (int string = 0; string < 8; string++) {
            x.snap(0, string);
            check.due("broken", x.standIn(0, string), string >= 2 && string <= 4 ? 3 : NONE);
        }
        x.fit(0, 3, 3);
        check.due("whole again", x.standIn(0, 3), NONE);
        check.due("has none", x.standIn(0, 2), NONE);
    }

    private static void standInNoSuch() {
        check.about("standIn: NO_SUCH if there is no such member or string");
        HarpOrders x = stringless();
        for (int member : new int[] {MIN, -1, 6, MAX}) {
            check.due("member " + member, x.standIn(member, 0), NO_SUCH);
        }
        for (int string : new int[] {MIN, -1, 8, 32, MAX}) {
            check.due("string " + string, x.standIn(0, string), NO_SUCH);
        }
        check.due("the first", x.standIn(0, 0), 0);
        check.due("the last", x.standIn(0, 7), 7);
    }
}
