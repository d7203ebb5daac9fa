/** "Orders" and promises 5, 9 and 16 to 19: the bounds that these sentences name, one method for each sentence. */
public final class OrdersBoundsTest {
    private static final int NO_SUCH = -100001, BAD_VALUE = -100002, TOO_MANY = -100004, NOT_POSSIBLE = -100005;
    private static final int[] ALL = {0, 1, 2, 3, 4, 5};
    private static final Check check = new Check();

    public static void main(String[] args) {
        tierOrMore();
        tierTogether();
        tierOfAGauge();
        tierExtremes();
        postOfAnOrder();
        noStringsNoPost();
        sharesRoundedDown();
        pennies();
        penniesAtMost();
        partsOf0();
        shareOfNothing();
        dutyShares();
        wantsNothingAnyMore();
        allThatItWantsThen();
        setsThatCanBeSent();
        noSuchSetToSend();
        withoutStrings();
        moreThanIsInTheChest();
        fiveParcels();
        costOfASent();
        orderOfASet();
        orderWhat();
        dutyOfAnOrder();
        notOfThem();
        shareErrors();
        ifMoreMany();
        ifMoreAbove20();
        ifMoreLess();
        partingOfNothing();
        leastSet();
        anySetCanBeTheBest();
        partingDuty();
        partingPost();
        partingWhat();
        check.end();
    }

    /** A club in which the post costs nothing. */
    private static HarpOrders postFree() {
        HarpOrders x = new HarpOrders();
        x.set(Clubs.BASE, 0);
        x.set(Clubs.HEAVY, 0);
        return x;
    }

    private static void tierOrMore() {
        check.about("if they are TIER or more of a gauge, each string of this gauge costs less by its price divided by 5");
        HarpOrders x = postFree();
        for (int gauge = 0; gauge < 8; gauge++) {
            int price = 10 + 5 * gauge;
            check.due("4", x.want(0, gauge, 4), 4 * price);
            check.due("5", x.want(0, gauge, 5), 5 * (8 + 4 * gauge));
            check.due("6", x.want(0, gauge, 6), 6 * (8 + 4 * gauge));
            check.due("0", x.want(0, gauge, 0), 0);
        }
    }

    private static void tierTogether() {
        check.about("Its strings are, for each gauge, those that these members want, together");
        HarpOrders x = postFree();
        for (int member : ALL) {
            x.want(member, 1, 1);
        }
        check.due("six of one each", x.order(63, 1), 6 * 12);
        check.due("five of one each", x.order(62, 1), 5 * 12);
        check.due("four of one each", x.order(60, 1), 4 * 15);
        check.due("the others are not of it", x.order(1, 1), 15);
        check.due("what its own strings cost", x.share(62, 5), 12);
        check.due("what its own strings cost", x.share(60, 5), 15);
    }

    private static void tierOfAGauge() {
        check.about("TIER or more of a gauge: each gauge for itself");
        HarpOrders x = postFree();
        x.want(0, 0, 5);
        x.want(0, 1, 4);
        check.due("gauge 0 alone costs less", x.order(1, 1), 40 + 60);
        x.want(0, 0, 4);
        x.want(0, 1, 5);
        check.due("gauge 1 alone costs less", x.order(1, 1), 40 + 60);
        x.want(0, 1, 4);
        check.due("eight, but neither", x.order(1, 1), 40 + 60);
    }

    private static void tierExtremes() {
        check.about("TIER (2 to 20; 5): strings");
        HarpOrders x = postFree();
        x.set(Clubs.TIER, 2);
        check.due("1", x.want(0, 7, 1), 45);
        check.due("2", x.want(0, 7, 2), 72);
        x.set(Clubs.TIER, 20);
        check.due("19", x.want(0, 7, 19), 19 * 45);
        check.due("20", x.want(0, 7, 20), 20 * 36);
    }

    private static void postOfAnOrder() {
        check.about("its post is BASE and HEAVY times what its strings weigh, together");
        HarpOrders x = new HarpOrders();
        x.want(0, 0, 1);
        x.want(5, 7, 2);
        check.due("post", x.order(33, 2), 20 + 17);
        x.set(Clubs.BASE, 0);
        check.due("without BASE", x.order(33, 2), 17);
        x.set(Clubs.HEAVY, 0);
        check.due("without both", x.order(33, 2), 0);
        x.set(Clubs.BASE, 99);
        check.due("without HEAVY", x.order(33, 2), 99);
        x.set(Clubs.HEAVY, 9);
        check.due("the most", x.order(33, 2), 99 + 153);
        for (int member : ALL) {
            for (int gauge = 0; gauge < 8; gauge++) {
                x.want(member, gauge, 20);
            }
        }
        check.due("the dearest post", x.order(63, 2), 99 + 9 * 4320);
        check.due("the most strings", x.order(63, 3), 960);
        check.due("the greatest value", x.order(63, 1), 120 * 8 * 22);
        check.due("the dearest order", x.order(63, 0), 99 + 9 * 4320 + 120 * 8 * 22);
    }

    private static void noStringsNoPost() {
        check.about("An order without strings has no post.");
        HarpOrders x = new HarpOrders();
        check.due("of all, who want nothing", x.order(63, 2), 0);
        check.due("its cost", x.order(63, 0), 0);
        x.want(0, 0, 1);
        check.due("of nobody", x.order(0, 2), 0);
        check.due("of others", x.order(62, 2), 0);
        check.due("the cost of others", x.order(62, 0), 0);
        check.due("with one string", x.order(1, 2), 21);
        check.due("none any more", x.want(0, 0, 0), 0);
    }

    /** A club in which the post costs some pence, whatever it weighs, and each of these members wants a string. */
    private static HarpOrders sharers(int pence, int... members) {
        HarpOrders x = new HarpOrders();
        x.set(Clubs.BASE, pence);
        x.set(Clubs.HEAVY, 0);
        x.set(Clubs.TIER, 20);
        for (int member : members) {
            x.want(member, 0, 1);
        }
        return x;
    }

    private static void sharesDue(String what, HarpOrders x, int... due) {
        for (int member : ALL) {
            int strings = 10 * x.strings(member, 0, true);
            check.due(what + ", member " + member, x.share(63, member) - strings, due[member]);
        }
    }

    private static void sharesRoundedDown() {
        check.about("each member gets the amount times its part, divided by all parts together");
        HarpOrders x = sharers(10, 0, 1);
        x.want(0, 0, 3);
        sharesDue("10 by 3 and 1: 7.5 and 2.5, and a penny", x, 8, 2, 0, 0, 0, 0);
        x.set(Clubs.BASE, 12);
        sharesDue("12 by 3 and 1", x, 9, 3, 0, 0, 0, 0);
        x.set(Clubs.BASE, 1);
        sharesDue("1 by 3 and 1: 0.75 and 0.25, and a penny", x, 1, 0, 0, 0, 0, 0);
        x.want(0, 0, 1);
        x.want(1, 0, 3);
        sharesDue("1 by 1 and 3: the penny goes by numbers", x, 1, 0, 0, 0, 0, 0);
        x.set(Clubs.BASE, 0);
        sharesDue("nothing to share", x, 0, 0, 0, 0, 0, 0);
    }

    private static void pennies() {
        check.about("what is left over then is given, a penny each, to the members whose part is above 0, by their numbers, from the lowest one on");
        HarpOrders x = sharers(12, 0, 1, 2, 3, 4, 5);
        sharesDue("12 by six", x, 2, 2, 2, 2, 2, 2);
        x.set(Clubs.BASE, 13);
        sharesDue("13 by six", x, 3, 2, 2, 2, 2, 2);
        x.set(Clubs.BASE, 15);
        sharesDue("15 by six", x, 3, 3, 3, 2, 2, 2);
        check.due("the lowest of the order, not of all", x.share(56, 3), 10 + 5);
        x.set(Clubs.BASE, 16);
        check.due("16 by the last three", x.share(56, 3), 10 + 6);
        check.due("16 by the last three", x.share(56, 4), 10 + 5);
        check.due("16 by the last three", x.share(56, 5), 10 + 5);
    }

    private static void penniesAtMost() {
        check.about("(it is always less than how many these are)");
        HarpOrders x = sharers(5, 0, 1, 2, 3, 4, 5);
        sharesDue("5 by six: only pennies", x, 1, 1, 1, 1, 1, 0);
        x.set(Clubs.BASE, 6);
        sharesDue("6 by six: none is left", x, 1, 1, 1, 1, 1, 1);
        x = sharers(7, 4);
        sharesDue("all to the only one", x, 0, 0, 0, 0, 7, 0);
        x = sharers(1, 4, 5);
        sharesDue("1 by two", x, 0, 0, 0, 0, 1, 0);
    }

    private static void partsOf0() {
        check.about("to the members whose part is above 0");
        HarpOrders x = sharers(5, 1, 3, 5);
        sharesDue("5 by three, not to those between", x, 0, 2, 0, 2, 0, 1);
        x.pay(0, 1000);
        check.due("send", x.send(63), 35);
        check.due("post of 0", x.member(0, 6), 0);
        check.due("account of 0", x.member(0, 0), 1000);
        check.due("post of 1", x.member(1, 6), 2);
        check.due("post of 2", x.member(2, 6), 0);
        check.due("post of 3", x.member(3, 6), 2);
        check.due("post of 5", x.member(5, 6), 1);
    }

    private static void shareOfNothing() {
        check.about("divided by all parts together: without strings there are none");
        HarpOrders x = new HarpOrders();
        for (int member : ALL) {
            check.due("of all", x.share(63, member), 0);
            check.due("of nobody", x.share(0, member), 0);
            check.due("of one", x.share(1 << member, member), 0);
        }
        x.want(2, 0, 1);
        check.due("of one who wants a string", x.share(4, 2), 10 + 21);
        check.due("of one who wants none, asked behind it", x.share(8, 3), 0);
        x.want(2, 0, 0);
        check.due("of the same one, who wants none any more", x.share(4, 2), 0);
    }

    private static void dutyShares() {
        check.about("its members pay it, shared by the prices of their strings without regard to TIER");
        HarpOrders x = Clubs.strict();
        x.want(1, 0, 9);
        x.want(4, 1, 2);
        x.want(5, 7, 2);
        // The value is 72 + 30 + 90; a fifth is 38, by 90, 30 and 90 (not by 72): 16, 5, 16 and a penny.
        check.due("send", x.send(63), 192);
        x.pass(1);
        check.due("duty of 1", x.member(1, 7), 17);
        check.due("duty of 4", x.member(4, 7), 5);
        check.due("duty of 5", x.member(5, 7), 16);
        check.due("duty of 0, who has no strings in it", x.member(0, 7), 0);
        check.due("all of it", x.count(13), 38);
    }

    private static void wantsNothingAnyMore() {
        check.about("it wants nothing any more, and a parcel is on its way");
        HarpOrders x = postFree();
        x.pay(0, 1000);
        x.want(0, 0, 1);
        x.want(0, 7, 3);
        x.want(1, 7, 4);
        check.due("send", x.send(5), 10 + 135);
        check.due("of the set", x.member(0, 3), 0);
        check.due("not of the set", x.member(1, 3), 4);
        check.due("order of all", x.order(63, 3), 4);
        check.due("parcels", x.count(11), 1);
        check.due("on their way", x.member(0, 4), 4);
        check.due("on their way", x.member(1, 4), 0);
    }

    private static void allThatItWantsThen() {
        check.about("0 to 20: all that it wants then");
        HarpOrders x = postFree();
        check.due("want", x.want(2, 2, 7), 7 * 16);
        check.due("want less", x.want(2, 2, 3), 60);
        check.due("wanted", x.strings(2, 2, true), 3);
        check.due("want 20", x.want(2, 2, 20), 320);
        check.due("wanted", x.strings(2, 2, true), 20);
        check.due("want 21", x.want(2, 2, 21), BAD_VALUE);
        check.due("want 0", x.want(2, 2, 0), 0);
        check.due("want -1", x.want(2, 2, -1), BAD_VALUE);
        check.due("wanted", x.strings(2, 2, true), 0);
    }

    private static void setsThatCanBeSent() {
        check.about("a set of members, one at least");
        for (int members = 1; members <= 63; members++) {
            HarpOrders x = sharers(0, ALL);
            x.pay(0, 60);
            int many = Integer.bitCount(members);
            check.due("send(" + members + ")", x.send(members), 10 * many);
            check.due("owners", x.parcel(0, 2), members);
        }
    }

    private static void noSuchSetToSend() {
        check.about("BAD_VALUE if members is no such set");
        HarpOrders x = sharers(0, ALL);
        x.pay(0, 1000);
        for (int members : new int[] {Integer.MIN_VALUE, -64, -1, 0, 64, 65, 127, 128, Integer.MAX_VALUE}) {
            check.due("send(" + members + ")", x.send(members), BAD_VALUE);
        }
        check.due("parcels", x.count(11), 0);
    }

    private static void withoutStrings() {
        check.about("NOT_POSSIBLE if the order has no strings");
        HarpOrders x = new HarpOrders();
        x.pay(0, 1000);
        check.due("nobody wants any", x.send(63), NOT_POSSIBLE);
        x.want(3, 7, 1);
        check.due("others want one", x.send(55), NOT_POSSIBLE);
        check.due("with one string", x.send(8), 45 + 28);
        check.due("they are sent", x.send(63), NOT_POSSIBLE);
    }

    private static void moreThanIsInTheChest() {
        check.about("NOT_POSSIBLE if the order costs more than is in the chest");
        HarpOrders x = new HarpOrders();
        x.want(3, 7, 1);
        check.due("an empty chest", x.send(8), NOT_POSSIBLE);
        x.pay(0, 72);
        check.due("a penny more", x.send(8), NOT_POSSIBLE);
        check.due("they are wanted still", x.strings(3, 7, true), 1);
        x.pay(5, 1);
        check.due("all that is in it", x.send(8), 73);
        check.due("the chest is empty", x.count(10), 0);
    }

    private static void fiveParcels() {
        check.about("TOO_MANY if there are 5 parcels.");
        HarpOrders x = postFree();
        x.pay(0, 1000);
        for (int i = 1; i <= 5; i++) {
            check.due("parcel " + i, Clubs.sendOne(x, i), 10);
            check.due("parcels", x.count(11), i);
        }
        check.due("a sixth", Clubs.sendOne(x, 0), TOO_MANY);
        check.due("it is wanted still", x.strings(0, 0, true), 1);
        check.due("nothing is paid", x.count(10), 950);
        x.set(Clubs.CHANCE, 100);
        x.pass(5);
        check.due("at the customs they are parcels still", x.send(1), TOO_MANY);
        x.pass(7);
        check.due("when they are home", x.send(1), 10);
    }

    private static void costOfASent() {
        check.about("Sends the order of some members. This is a change. Returns its cost");
        HarpOrders x = sharers(7, 0, 1, 2);
        x.pay(5, 1000);
        int before = 0;
        for (int member : ALL) {
            before += x.member(member, 0);
        }
        check.due("send", x.send(7), 37);
        check.due("0 pays", x.member(0, 0), -13);
        check.due("1 pays", x.member(1, 0), -12);
        check.due("2 pays", x.member(2, 0), -12);
        check.due("together", before - x.count(10), 37);
    }

    private static void orderOfASet() {
        check.about("a set of members, 0 to 63");
        HarpOrders x = sharers(0, ALL);
        for (int members = 0; members <= 63; members++) {
            check.due("order(" + members + ", 3)", x.order(members, 3), Integer.bitCount(members));
        }
        for (int members : new int[] {Integer.MIN_VALUE, -1, 64, 65, 127, Integer.MAX_VALUE}) {
            check.due("order(" + members + ", 3)", x.order(members, 3), BAD_VALUE);
        }
    }

    private static void orderWhat() {
        check.about("0 its cost, 1 its value, 2 its post, 3 its strings, how many, 4 the duty, if it was opened");
        HarpOrders x = new HarpOrders();
        x.want(0, 7, 4);
        int[] due = {180 + 52, 180, 52, 4, 16};
        for (int what = 0; what < due.length; what++) {
            check.due("order(1, " + what + ")", x.order(1, what), due[what]);
            check.due("of nobody", x.order(0, what), 0);
        }
        for (int what : new int[] {Integer.MIN_VALUE, -1, 5, Integer.MAX_VALUE}) {
            check.due("order(1, " + what + ")", x.order(1, what), BAD_VALUE);
        }
    }

    private static void dutyOfAnOrder() {
        check.about("the duty is (its value less FREE, 0 at least) * DUTY / 100");
        HarpOrders x = new HarpOrders();
        x.want(0, 6, 2);
        x.want(0, 2, 1);
        check.due("value", x.order(1, 1), 100);
        int[][] due = {{500, 0}, {101, 0}, {100, 0}, {99, 0}, {98, 1}, {97, 1}, {96, 2}, {1, 49}, {0, 50}};
        x.set(Clubs.DUTY, 50);
        for (int[] row : due) {
            x.set(Clubs.FREE, row[0]);
            check.due("FREE of " + row[0], x.order(1, 4), row[1]);
        }
        x.set(Clubs.DUTY, 0);
        check.due("DUTY of 0", x.order(1, 4), 0);
        x.set(Clubs.DUTY, 1);
        check.due("DUTY of 1", x.order(1, 4), 1);
        x.set(Clubs.FREE, 1);
        check.due("99 hundredths, rounded down", x.order(1, 4), 0);
    }

    private static void notOfThem() {
        check.about("Returns the pence (0 if it is not of them)");
        HarpOrders x = sharers(6, ALL);
        for (int members = 0; members <= 63; members++) {
            for (int member : new int[] {0, 5}) {
                boolean isOfThem = (members >> member & 1) == 1;
                check.holds("share(" + members + ", " + member + ")", x.share(members, member) > 0 == isOfThem);
            }
        }
        check.due("the only one", x.share(1, 0), 16);
        check.due("another one", x.share(1, 5), 0);
    }

    private static void shareErrors() {
        check.about("NO_SUCH if there is no such member; BAD_VALUE if members is out of range.");
        HarpOrders x = sharers(6, ALL);
        for (int member : new int[] {Integer.MIN_VALUE, -1, 6, 31, 32, 33, Integer.MAX_VALUE}) {
            check.due("share(63, " + member + ")", x.share(63, member), NO_SUCH);
            check.due("share(64, " + member + ")", x.share(64, member), NO_SUCH);
        }
        for (int members : new int[] {Integer.MIN_VALUE, -1, 64, Integer.MAX_VALUE}) {
            check.due("share(" + members + ", 0)", x.share(members, 0), BAD_VALUE);
            check.due("share(" + members + ", 5)", x.share(members, 5), BAD_VALUE);
        }
        check.due("share(63, 0)", x.share(63, 0), 11);
        check.due("share(63, 5)", x.share(63, 5), 11);
        check.due("share(0, 0)", x.share(0, 0), 0);
    }

    private static void ifMoreMany() {
        check.about("1 to 20: how many more");
        HarpOrders x = postFree();
        check.due("1", x.ifMore(0, 0, 1), 10);
        check.due("20", x.ifMore(5, 7, 20), 720);
        for (int many : new int[] {Integer.MIN_VALUE, -1, 0, 21, Integer.MAX_VALUE}) {
            check.due("ifMore(0, 0, " + many + ")", x.ifMore(0, 0, many), BAD_VALUE);
        }
        for (int no : new int[] {-1, 6}) {
            check.due("no such member", x.ifMore(no, 0, 1), NO_SUCH);
        }
        for (int no : new int[] {-1, 8}) {
            check.due("no such gauge", x.ifMore(0, no, 1), NO_SUCH);
        }
        x.set(Clubs.BASE, 99);
        x.set(Clubs.HEAVY, 9);
        check.due("with the post of an order that was empty", x.ifMore(0, 0, 1), 10 + 99 + 9);
        x.want(5, 7, 1);
        check.due("with a heavier post", x.ifMore(0, 0, 1), 10 + 9);
    }

    private static void ifMoreAbove20() {
        check.about("if a member wanted more of a gauge (also if that is above 20)");
        HarpOrders x = postFree();
        x.want(0, 0, 20);
        check.due("21", x.ifMore(0, 0, 1), 8);
        check.due("40", x.ifMore(0, 0, 20), 160);
        check.due("it wants no more", x.strings(0, 0, true), 20);
    }

    private static void ifMoreLess() {
        check.about("by how much the order of all members would cost more (less, if below 0)");
        HarpOrders x = postFree();
        x.want(0, 7, 19);
        x.set(Clubs.TIER, 20);
        check.due("less", x.ifMore(1, 7, 1), 20 * 36 - 19 * 45);
        x.want(0, 7, 4);
        x.set(Clubs.TIER, 5);
        check.due("neither more nor less", x.ifMore(1, 7, 1), 0);
        check.due("more", x.ifMore(1, 7, 2), 36);
    }

    private static void partingOfNothing() {
        check.about("the set of members, of 0 to 63, for which ... are the least together: without strings");
        HarpOrders x = new HarpOrders();
        check.due("the set", x.bestParting(0), 0);
        check.due("the pence", x.bestParting(1), 0);
        x.want(5, 7, 1);
        check.due("of one member", x.bestParting(0), 0);
        check.due("the pence of one member", x.bestParting(1), 45 + 28);
    }

    private static void leastSet() {
        check.about("of several the least set");
        HarpOrders x = sharers(0, ALL);
        x.set(Clubs.DUTY, 0);
        check.due("all part alike", x.bestParting(0), 0);
        check.due("the pence", x.bestParting(1), 60);
        x.set(Clubs.FREE, 60);
        x.set(Clubs.DUTY, 50);
        x.want(4, 7, 1);
        x.want(5, 7, 1);
        x.want(4, 0, 0);
        x.want(5, 0, 0);
        check.due("65 each, and a duty of 2 each", x.bestParting(1), 130 + 4);
        check.due("the two lowest of the others are with 4", x.bestParting(0), 19);
    }

    private static void anySetCanBeTheBest() {
        check.about("the set of members, of 0 to 63");
        for (int members = 0; members <= 31; members++) {
            HarpOrders x = postFree();
            x.set(Clubs.TIER, 20);
            x.set(Clubs.DUTY, 50);
            x.set(Clubs.FREE, 240);
            // 160 and 240 are free if they are parted; each of both would cost more without one of its members.
            wantTwenty(x, members, 0);
            wantTwenty(x, 63 - members, 1);
            check.due("the set", x.bestParting(0), members);
            check.due("the pence of " + members, x.bestParting(1), members == 0 ? 240 : 400);
        }
    }

    private static void wantTwenty(HarpOrders x, int members, int gauge) {
        int left = 20;
        for (int member : ALL) {
            if ((members >> member & 1) == 1) {
                int others = Integer.bitCount(members >> member + 1);
                int many = left / (others + 1);
                x.want(member, gauge, many);
                left -= many;
            }
        }
    }

    private static void partingDuty() {
        check.about("and the duty of both if both were opened");
        HarpOrders x = postFree();
        x.set(Clubs.DUTY, 50);
        x.set(Clubs.FREE, 45);
        x.want(2, 7, 1);
        x.want(3, 7, 1);
        check.due("one is free each", x.bestParting(1), 90);
        check.due("the least of 4, 8 and more", x.bestParting(0), 4);
        x.set(Clubs.FREE, 44);
        check.due("half a penny each, rounded down", x.bestParting(1), 90);
        x.set(Clubs.FREE, 43);
        check.due("a penny each", x.bestParting(1), 92);
        x.set(Clubs.FREE, 0);
        check.due("nothing is free", x.bestParting(1), 90 + 44);
        check.due("22 and 22 are less than 45", x.bestParting(0), 4);
        x.set(Clubs.FREE, 90);
        check.due("all is free", x.bestParting(0), 0);
    }

    private static void partingPost() {
        check.about("for which the cost of their order and that of the others");
        HarpOrders x = postFree();
        x.set(Clubs.DUTY, 50);
        x.set(Clubs.FREE, 45);
        x.want(0, 7, 1);
        x.want(1, 7, 1);
        x.set(Clubs.BASE, 21);
        check.due("a duty of 22 is dearer than the post", x.bestParting(0), 1);
        check.due("the pence", x.bestParting(1), 90 + 42);
        x.set(Clubs.BASE, 22);
        check.due("both cost the same", x.bestParting(0), 0);
        check.due("the pence", x.bestParting(1), 90 + 22 + 22);
        x.set(Clubs.BASE, 23);
        check.due("the post is dearer", x.bestParting(0), 0);
        x.set(Clubs.BASE, 0);
        x.set(Clubs.TIER, 2);
        check.due("72 and a duty of 13 are less than twice 45", x.bestParting(0), 0);
        check.due("the pence", x.bestParting(1), 85);
    }

    private static void partingWhat() {
        check.about("BAD_VALUE if what is neither 0 nor 1.");
        HarpOrders x = new HarpOrders();
        for (int what : new int[] {Integer.MIN_VALUE, -1, 2, 3, Integer.MAX_VALUE}) {
            check.due("bestParting(" + what + ")", x.bestParting(what), BAD_VALUE);
        }
    }
}
