/** Promises 2 to 5 and 7 to 11: the changes, but for read. */
public final class ChangesTest {
    private static final int NO_SUCH = -100001, BAD_VALUE = -100002, TOO_MANY = -100004, NOT_POSSIBLE = -100005;
    private static final Check check = new Check();

    public static void main(String[] args) {
        promise2Set();
        promise3Snap();
        promise4Fit();
        promise5Want();
        promise7Pay();
        promise8Give();
        promise9Send();
        promise9Errors();
        promise9Shares();
        promise10Pass();
        promise10Customs();
        promise10Lost();
        promise10TwoOnADay();
        promise10Draws();
        promise11Shuffle();
        check.end();
    }

    private static void promise2Set() {
        check.about("2 set");
        HarpOrders x = new HarpOrders();
        int[] least = {2, 0, 0, 1, 0, 0, 0, 0, 0};
        int[] first = {5, 20, 1, 5, 7, 100, 20, 50, 20};
        int[] most = {20, 99, 9, 20, 30, 500, 50, 100, 100};
        for (int s = 0; s < 9; s++) {
            check.due("set below the least of " + s, x.set(s, least[s] - 1), BAD_VALUE);
            check.due("set above the most of " + s, x.set(s, most[s] + 1), BAD_VALUE);
            check.due("set the least of " + s, x.set(s, least[s]), first[s]);
            check.due("set the most of " + s, x.set(s, most[s]), least[s]);
            check.due("count(" + s + ")", x.count(s), most[s]);
        }
        check.due("set(-1, 5)", x.set(-1, 5), BAD_VALUE);
        check.due("set(9, 5)", x.set(9, 5), BAD_VALUE);
        x = new HarpOrders();
        x.set(7, 100);
        x.pay(0, 1000);
        x.want(0, 0, 1);
        x.send(1);
        x.set(3, 20);
        check.due("a parcel keeps its day", x.parcel(0, 3), 5);
        x.pass(5);
        x.set(4, 30);
        check.due("a parcel keeps its day at home", x.parcel(0, 3), 7);
    }

    private static void promise3Snap() {
        check.about("3 snap");
        HarpOrders x = new HarpOrders();
        check.due("snap(-1, 0)", x.snap(-1, 0), NO_SUCH);
        check.due("snap(6, 0)", x.snap(6, 0), NO_SUCH);
        check.due("snap(0, -1)", x.snap(0, -1), NO_SUCH);
        check.due("snap(0, 8)", x.snap(0, 8), NO_SUCH);
        check.due("snap(0, 7)", x.snap(0, 7), 1);
        check.due("snap(0, 0)", x.snap(0, 0), 2);
        check.due("snap(5, 0)", x.snap(5, 0), 1);
        check.due("snap(0, 7)", x.snap(0, 7), NOT_POSSIBLE);
        check.due("broken", x.member(0, 1), 129);
        check.due("changes", x.count(18), 3);
    }

    /** A club whose members each have two spare strings of each gauge and no pence. */
    private static HarpOrders stocked() {
        HarpOrders x = new HarpOrders();
        x.set(7, 0);
        x.set(3, 1);
        x.set(1, 0);
        x.set(2, 0);
        for (int member = 0; member < 6; member++) {
            for (int gauge = 0; gauge < 8; gauge++) {
                x.want(member, gauge, 2);
            }
            x.pay(member, x.share(1 << member, member));
            x.send(1 << member);
            x.pass(1);
        }
        return x;
    }

    private static void promise4Fit() {
        check.about("4 fit");
        HarpOrders x = stocked();
        check.due("fit(-1, 0, 0)", x.fit(-1, 0, 0), NO_SUCH);
        check.due("fit(6, 0, 0)", x.fit(6, 0, 0), NO_SUCH);
        check.due("fit(0, -1, 0)", x.fit(0, -1, 0), NO_SUCH);
        check.due("fit(0, 8, 7)", x.fit(0, 8, 7), NO_SUCH);
        check.due("fit(0, 0, -1)", x.fit(0, 0, -1), NO_SUCH);
        check.due("fit(0, 7, 8)", x.fit(0, 7, 8), NO_SUCH);
        check.due("a whole one", x.fit(0, 3, 3), NOT_POSSIBLE);
        x.snap(0, 3);
        x.snap(0, 0);
        check.due("2 less", x.fit(0, 3, 1), NOT_POSSIBLE);
        check.due("2 more", x.fit(0, 3, 5), NOT_POSSIBLE);
        check.due("1 less", x.fit(0, 3, 2), 1);
        check.due("whole then", x.member(0, 1), 1);
        check.due("whole then", x.fit(0, 3, 2), NOT_POSSIBLE);
        x.snap(0, 3);
        check.due("1 more", x.fit(0, 3, 4), 1);
        x.snap(0, 3);
        check.due("its own", x.fit(0, 3, 3), 1);
        x.snap(0, 3);
        check.due("its own, the last", x.fit(0, 3, 3), 0);
        x.snap(0, 3);
        check.due("none is left", x.fit(0, 3, 3), NOT_POSSIBLE);
        check.due("another member's are left", x.strings(1, 3, false), 2);
        check.due("the last of another gauge", x.fit(0, 3, 2), 0);
        check.due("the first string", x.fit(0, 0, 0), 1);
        check.due("all are whole", x.count(15), 0);
    }

    private static void promise5Want() {
        check.about("5 want");
        HarpOrders x = new HarpOrders();
        check.due("want(-1, 0, 0)", x.want(-1, 0, 0), NO_SUCH);
        check.due("want(6, 0, 21)", x.want(6, 0, 21), NO_SUCH);
        check.due("want(0, -1, 0)", x.want(0, -1, 0), NO_SUCH);
        check.due("want(0, 8, 21)", x.want(0, 8, 21), NO_SUCH);
        check.due("want(0, 0, -1)", x.want(0, 0, -1), BAD_VALUE);
        check.due("want(0, 0, 21)", x.want(0, 0, 21), BAD_VALUE);
        check.due("want(0, 0, 0)", x.want(0, 0, 0), 0);
        check.due("a change though nothing is different", x.count(18), 1);
        check.due("want(0, 0, 4)", x.want(0, 0, 4), 40 + 24);
        check.due("want(1, 0, 1): TIER", x.want(1, 0, 1), 40 + 25);
        check.due("want(5, 7, 20)", x.want(5, 7, 20), 40 + 720 + 20 + 5 + 160);
        check.due("want(5, 7, 1): all that it wants then", x.want(5, 7, 1), 40 + 45 + 33);
        check.due("strings", x.strings(5, 7, true), 1);
    }

    private static void promise7Pay() {
        check.about("7 pay");
        HarpOrders x = new HarpOrders();
        check.due("pay(-1, 0)", x.pay(-1, 0), NO_SUCH);
        check.due("pay(6, 1001)", x.pay(6, 1001), NO_SUCH);
        check.due("pay(0, 0)", x.pay(0, 0), BAD_VALUE);
        check.due("pay(0, 1001)", x.pay(0, 1001), BAD_VALUE);
        check.due("pay(0, 1)", x.pay(0, 1), 1);
        check.due("pay(0, 1000)", x.pay(0, 1000), 1001);
        check.due("pay(5, 7)", x.pay(5, 7), 7);
        check.due("chest", x.count(10), 1008);
    }

    private static void promise8Give() {
        check.about("8 give");
        HarpOrders x = stocked();
        check.due("give(-1, 0, 0, 0)", x.give(-1, 0, 0, 0), NO_SUCH);
        check.due("give(6, 0, 0, 0)", x.give(6, 0, 0, 0), NO_SUCH);
        check.due("give(0, -1, 0, 0)", x.give(0, -1, 0, 0), NO_SUCH);
        check.due("give(0, 6, 0, 0)", x.give(0, 6, 0, 0), NO_SUCH);
        check.due("give(0, 0, -1, 0)", x.give(0, 0, -1, 0), NO_SUCH);
        check.due("give(0, 0, 8, 0)", x.give(0, 0, 8, 0), NO_SUCH);
        check.due("give(0, 0, 7, 1)", x.give(0, 0, 7, 1), BAD_VALUE);
        check.due("give(0, 1, 7, 0)", x.give(0, 1, 7, 0), BAD_VALUE);
        check.due("give(0, 1, 7, 21)", x.give(0, 1, 7, 21), BAD_VALUE);
        check.due("give(0, 1, 7, 3)", x.give(0, 1, 7, 3), NOT_POSSIBLE);
        check.due("give(0, 1, 7, 2)", x.give(0, 1, 7, 2), 90);
        check.due("the other's account", x.member(1, 0), -90);
        check.due("spare", x.strings(0, 7, false), 0);
        check.due("spare", x.strings(1, 7, false), 4);
        check.due("paid for strings, as sent", x.member(1, 5), 440);
        check.due("paid for strings, as sent", x.member(0, 5), 440);
        for (int i = 0; i < 4; i++) {
            x.want(2, 1, 20);
            x.want(3, 1, 20);
            x.pay(2, 1000);
            x.send(12);
            x.pass(1);
        }
        x.want(2, 1, 16);
        x.send(4);
        x.pass(1);
        check.due("spare", x.strings(2, 1, false), 98);
        check.due("above 99", x.give(3, 2, 1, 2), NOT_POSSIBLE);
        int before = x.member(3, 0);
        check.due("99, without TIER", x.give(3, 2, 1, 1), before + 15);
        check.due("20", x.give(3, 4, 1, 20), before + 15 + 300);
        check.due("above 99", x.give(3, 2, 1, 1), NOT_POSSIBLE);
    }

    private static void promise9Send() {
        check.about("9 send");
        HarpOrders x = new HarpOrders();
        x.want(0, 0, 5);
        x.want(1, 1, 1);
        x.want(2, 0, 1);
        x.pay(3, 65 + 31);
        // 5 * 8 + 15, post 20 + 7; then 10, post 21.
        check.due("send(3)", x.send(3), 82);
        check.due("wanted", x.member(0, 3), 0);
        check.due("wanted, not of them", x.member(2, 3), 1);
        check.due("account", x.member(0, 0), -40 - 20);
        check.due("account", x.member(1, 0), -15 - 7);
        check.due("account, not of them", x.member(2, 0), 0);
        check.due("chest", x.count(10), 14);
        check.due("more than is in the chest", x.send(4), NOT_POSSIBLE);
        x.pay(3, 17);
        check.due("all that is in the chest", x.send(63), 31);
        check.due("chest", x.count(10), 0);
        check.due("owners", x.parcel(0, 2), 3);
        check.due("owners", x.parcel(1, 2), 4);
        check.due("value", x.parcel(0, 1), 55);
        check.due("days", x.parcel(1, 3), 5);
    }

    private static void promise9Errors() {
        check.about("9 send, errors");
        HarpOrders x = new HarpOrders();
        check.due("send(0)", x.send(0), BAD_VALUE);
        check.due("send(-1)", x.send(-1), BAD_VALUE);
        check.due("send(64)", x.send(64), BAD_VALUE);
        check.due("without strings", x.send(63), NOT_POSSIBLE);
        x.want(0, 0, 1);
        check.due("without strings of them", x.send(62), NOT_POSSIBLE);
        x.pay(1, 30);
        check.due("costs a penny more", x.send(1), NOT_POSSIBLE);
        check.due("wants stay", x.member(0, 3), 1);
        x.pay(1, 1000);
        for (int i = 0; i < 5; i++) {
            x.want(0, 0, 1);
            check.due("send(1)", x.send(1), 31);
        }
        check.due("without strings, before too many", x.send(1), NOT_POSSIBLE);
        x.want(0, 0, 1);
        check.due("too many", x.send(1), TOO_MANY);
        check.due("wants stay", x.member(0, 3), 1);
        x.want(0, 7, 20);
        x.want(1, 7, 20);
        check.due("too dear, before too many", x.send(3), NOT_POSSIBLE);
        x.want(0, 7, 0);
        x.set(7, 0);
        x.pass(5);
        check.due("send again, when they are home", x.send(1), 31);
    }

    private static void promise9Shares() {
        check.about("9 send, shares of the post");
        HarpOrders x = new HarpOrders();
        x.set(1, 5);
        x.set(2, 0);
        x.want(1, 0, 1);
        x.want(3, 0, 1);
        x.want(4, 1, 1);
        x.pay(0, 1000);
        x.send(63);
        // 5 by 1, 1 and 2: 1, 1, 2, and the penny that is left over to the lowest.
        check.due("post of 1", x.member(1, 6), 2);
        check.due("post of 3", x.member(3, 6), 1);
        check.due("post of 4", x.member(4, 6), 2);
        check.due("post of 0, without strings", x.member(0, 6), 0);
        check.due("strings of 4", x.member(4, 5), 15);
    }

    private static void promise10Pass() {
        check.about("10 pass");
        HarpOrders x = new HarpOrders();
        check.due("pass(0)", x.pass(0), BAD_VALUE);
        check.due("pass(61)", x.pass(61), BAD_VALUE);
        check.due("pass(-1)", x.pass(-1), BAD_VALUE);
        check.due("pass(1)", x.pass(1), 0);
        check.due("day", x.count(9), 1);
        for (int i = 0; i < 166; i++) {
            x.pass(60);
        }
        check.due("day", x.count(9), 9961);
        check.due("above 9999", x.pass(39), TOO_MANY);
        check.due("bad before above", x.pass(61), BAD_VALUE);
        x.pay(0, 100);
        x.want(0, 0, 1);
        x.send(1);
        check.due("to 9999", x.pass(38), 1);
        check.due("day", x.count(9), 9999);
        check.due("above 9999", x.pass(1), TOO_MANY);
        check.due("changes", x.count(18), 6);
    }

    private static void promise10Customs() {
        check.about("10 pass, at the customs");
        HarpOrders x = new HarpOrders();
        x.pay(0, 1000);
        x.set(5, 10);
        x.want(0, 0, 7);
        x.want(1, 7, 1);
        x.want(2, 2, 1);
        // 7 * 8 + 45 + 20 is the value; 20 and 7 + 8 + 3 the post.
        check.due("send(63)", x.send(63), 121 + 38);
        check.due("pass(4)", x.pass(4), 0);
        check.due("nothing is drawn before", x.count(16), 1);
        // The first draws from 1 are 38 (opened) and 58 (no string is lost).
        check.due("pass(1)", x.pass(1), 0);
        check.due("two are drawn", x.count(16), (1103527590L * 1103515245L + 12345L) % 2147483648L);
        check.due("opened", x.count(12), 1);
        // 111 * 20 / 100 by 70, 45 and 20: 22 into 11, 7, 3 and a penny for the lowest.
        check.due("duty of 0", x.member(0, 7), 12);
        check.due("duty of 1", x.member(1, 7), 7);
        check.due("duty of 2", x.member(2, 7), 3);
        check.due("lost", x.count(14), 0);
        check.due("pass(6)", x.pass(6), 0);
        check.due("home WAIT days later", x.pass(1), 1);
        check.due("spare", x.member(0, 2), 7);
        x.set(7, 38);
        x.shuffle(1);
        x.want(0, 0, 1);
        x.send(1);
        check.due("38 is not below 38", x.pass(60), 1);
        check.due("it is home at once, with one draw", x.count(16), 1103527590);
        check.due("not opened", x.count(12), 1);
        x.set(7, 39);
        x.set(4, 0);
        x.shuffle(1);
        x.want(0, 0, 1);
        x.send(1);
        check.due("pass(5), without a wait", x.pass(5), 1);
        check.due("38 is below 39", x.count(12), 2);
        check.due("no duty below FREE", x.count(13), 22);
    }

    private static void promise10Lost() {
        check.about("10 pass, a lost string");
        HarpOrders x = new HarpOrders();
        x.pay(0, 1000);
        x.set(8, 59);
        x.want(1, 6, 1);
        x.want(4, 1, 1);
        x.want(4, 3, 1);
        x.want(5, 0, 1);
        x.send(63);
        x.pass(5);
        // 58 is below 59; then 10113, left over by 4, is 1: the first string of 4.
        check.due("lost of 4", x.member(4, 8), 1);
        check.due("on their way", x.member(4, 4), 1);
        check.due("lost of 1", x.member(1, 8), 0);
        x.pass(7);
        check.due("gauge 1", x.strings(4, 1, false), 0);
        check.due("gauge 3", x.strings(4, 3, false), 1);
        check.due("gauge 6", x.strings(1, 6, false), 1);
        x.set(8, 58);
        x.shuffle(1);
        x.want(5, 0, 1);
        x.send(63);
        x.pass(5);
        check.due("58 is not below 58", x.count(14), 1);
        x.pass(7);
        x.set(8, 100);
        x.shuffle(1);
        x.want(2, 5, 20);
        x.send(63);
        x.pass(12);
        check.due("one of twenty", x.strings(2, 5, false), 19);
        check.due("lost of 2", x.member(2, 8), 1);
    }

    private static void promise10TwoOnADay() {
        check.about("10 pass, two on a day");
        HarpOrders x = new HarpOrders();
        x.pay(0, 1000);
        for (int member = 1; member <= 4; member++) {
            x.want(member, 0, 1);
            x.send(1 << member);
        }
        // The draws are 38, 58 (the first is opened), 13, 15 (the second, and it loses its string:
        // one more draw, 51), 27, 10 (the third, which loses its string: 19), 12, 86 (the fourth).
        check.due("pass(5)", x.pass(5), 0);
        check.due("opened", x.count(12), 4);
        check.due("lost of 1", x.member(1, 8), 0);
        check.due("lost of 2", x.member(2, 8), 1);
        check.due("lost of 3", x.member(3, 8), 1);
        check.due("lost of 4", x.member(4, 8), 0);
        x.undo();
        x.set(7, 30);
        // 38 (home), 58 (home), 13 (opened) 15 (lost) 51, 27 (opened) 10 (lost).
        check.due("pass(5)", x.pass(5), 2);
        check.due("parcels", x.count(11), 2);
        check.due("lost of 3", x.member(3, 8), 1);
        check.due("lost of 4", x.member(4, 8), 1);
        check.due("those behind move up", x.parcel(0, 4), 1);
        x.want(0, 3, 2);
        x.send(1);
        check.due("the newest is the last", x.parcel(2, 0), 2);
        x.set(7, 0);
        check.due("pass(7)", x.pass(7), 3);
        check.due("home", x.strings(0, 3, false), 2);
    }

    private static void promise10Draws() {
        check.about("10 pass, how a number is drawn");
        HarpOrders x = new HarpOrders();
        x.pay(0, 1000);
        x.set(7, 1);
        x.set(8, 0);
        x.want(0, 0, 1);
        // Then x becomes 100 * 65536 when it draws, and with the other one 1 less than that.
        x.shuffle(1877714563);
        x.send(1);
        check.due("0 is below 1", x.pass(5), 0);
        check.due("opened", x.count(12), 1);
        x.undo();
        x.shuffle(20036382);
        check.due("99 is not below 1", x.pass(5), 1);
        check.due("x", x.count(16), 100 * 65536 - 1);
    }

    private static void promise11Shuffle() {
        check.about("11 shuffle");
        HarpOrders x = new HarpOrders();
        check.due("shuffle(-1)", x.shuffle(-1), BAD_VALUE);
        check.due("shuffle(MIN)", x.shuffle(Integer.MIN_VALUE), BAD_VALUE);
        check.due("shuffle(2147483647)", x.shuffle(2147483647), 1);
        check.due("shuffle(0)", x.shuffle(0), 2147483647);
        check.due("count(16)", x.count(16), 0);
        x.shuffle(2147483647);
        x.pay(0, 100);
        x.want(0, 0, 1);
        x.set(7, 0);
        x.send(1);
        x.pass(5);
        check.due("a draw from the greatest x", x.count(16), (2147483647L * 1103515245L + 12345L) % 2147483648L);
    }
}
