/** Promises 1 and 12 to 15: a new object, and what there is. */
public final class ViewsTest {
    private static final int NO_SUCH = -100001, BAD_VALUE = -100002;
    private static final Check check = new Check();

    public static void main(String[] args) {
        promise1NewObject();
        promise12Member();
        promise12Lost();
        promise13Strings();
        promise14Parcel();
        promise15Count();
        check.end();
    }

    private static void promise1NewObject() {
        check.about("1 a new object");
        HarpOrders x = new HarpOrders();
        int[] first = {5, 20, 1, 5, 7, 100, 20, 50, 20, 0, 0, 0, 0, 0, 0, 0, 1, 0, 0};
        for (int what = 0; what < first.length; what++) {
            check.due("count(" + what + ")", x.count(what), first[what]);
        }
        for (int member = 0; member < 6; member++) {
            for (int what = 0; what <= 8; what++) {
                check.due("member(" + member + ", " + what + ")", x.member(member, what), 0);
            }
            for (int gauge = 0; gauge < 8; gauge++) {
                check.due("strings, spare", x.strings(member, gauge, false), 0);
                check.due("strings, wanted", x.strings(member, gauge, true), 0);
            }
        }
        check.due("parcel(0, 0)", x.parcel(0, 0), NO_SUCH);
        check.due("restore(0)", x.restore(0), -100005);
        check.due("restore(1)", x.restore(1), -100005);
        check.due("undo()", x.undo(), -100005);
        check.due("a second object", other(x).count(1), 20);
    }

    private static HarpOrders other(HarpOrders x) {
        x.set(1, 99);
        return new HarpOrders();
    }

    private static void promise12Member() {
        check.about("12 member");
        HarpOrders x = new HarpOrders();
        check.due("member(-1, 9)", x.member(-1, 9), NO_SUCH);
        check.due("member(6, 0)", x.member(6, 0), NO_SUCH);
        check.due("member(0, -1)", x.member(0, -1), BAD_VALUE);
        check.due("member(5, 9)", x.member(5, 9), BAD_VALUE);
        x.set(7, 100);
        x.set(8, 0);
        x.set(5, 0);
        x.snap(2, 7);
        x.snap(2, 0);
        check.due("broken as a set", x.member(2, 1), 129);
        x.want(2, 0, 3);
        x.want(2, 7, 2);
        x.want(4, 1, 1);
        check.due("wanted", x.member(2, 3), 5);
        x.pay(2, 1000);
        // 3 * 10 + 2 * 45 and 15, weights 19 and 2, post 20 + 21.
        check.due("send(63)", x.send(63), 176);
        check.due("wanted after", x.member(2, 3), 0);
        check.due("on their way", x.member(2, 4), 5);
        check.due("on their way", x.member(4, 4), 1);
        check.due("account", x.member(2, 0), 842);
        check.due("account", x.member(4, 0), -18);
        check.due("paid for strings", x.member(2, 5), 120);
        check.due("paid for post", x.member(2, 6), 38);
        check.due("paid for strings", x.member(4, 5), 15);
        check.due("paid for post", x.member(4, 6), 3);
        x.pass(5);
        // 135 * 20 / 100 is 27: 24 and 3.
        check.due("paid for duty", x.member(2, 7), 24);
        check.due("paid for duty", x.member(4, 7), 3);
        check.due("account", x.member(2, 0), 818);
        check.due("on their way, opened", x.member(2, 4), 5);
        check.due("spare", x.member(2, 2), 0);
        x.pass(7);
        check.due("on their way, home", x.member(2, 4), 0);
        check.due("spare", x.member(2, 2), 5);
        x.want(2, 0, 1);
        x.send(4);
        check.due("paid for strings, again", x.member(2, 5), 130);
        check.due("paid for post, again", x.member(2, 6), 59);
    }

    private static void promise12Lost() {
        check.about("12 member, lost");
        HarpOrders x = new HarpOrders();
        x.set(7, 0);
        x.set(3, 1);
        for (int i = 0; i < 5; i++) {
            x.want(1, 0, 20);
            x.pay(1, 1000);
            x.send(2);
            x.pass(1);
        }
        check.due("spare, full", x.strings(1, 0, false), 99);
        check.due("lost above 99", x.member(1, 8), 1);
        x.want(1, 0, 4);
        x.want(1, 1, 4);
        x.send(2);
        x.pass(1);
        check.due("lost above 99", x.member(1, 8), 5);
        check.due("another gauge", x.strings(1, 1, false), 4);
        x.set(7, 100);
        x.set(8, 100);
        x.set(4, 0);
        x.want(1, 0, 3);
        x.send(2);
        x.pass(1);
        check.due("lost at the customs and at home", x.member(1, 8), 8);
        check.due("lost by all", x.count(14), 8);
        check.due("the others", x.member(0, 8), 0);
    }

    private static void promise13Strings() {
        check.about("13 strings");
        HarpOrders x = new HarpOrders();
        check.due("strings(-1, 0, true)", x.strings(-1, 0, true), NO_SUCH);
        check.due("strings(6, 0, false)", x.strings(6, 0, false), NO_SUCH);
        check.due("strings(0, -1, true)", x.strings(0, -1, true), NO_SUCH);
        check.due("strings(5, 8, false)", x.strings(5, 8, false), NO_SUCH);
        x.want(5, 7, 4);
        x.want(0, 0, 2);
        check.due("wanted", x.strings(5, 7, true), 4);
        check.due("wanted", x.strings(0, 0, true), 2);
        check.due("wanted, another", x.strings(5, 6, true), 0);
        check.due("spare", x.strings(5, 7, false), 0);
        x.set(7, 0);
        x.pay(0, 1000);
        x.send(63);
        x.pass(5);
        check.due("wanted", x.strings(5, 7, true), 0);
        check.due("spare", x.strings(5, 7, false), 4);
        check.due("spare", x.strings(0, 0, false), 2);
    }

    private static void promise14Parcel() {
        check.about("14 parcel");
        HarpOrders x = new HarpOrders();
        x.set(5, 0);
        x.set(8, 100);
        x.set(7, 100);
        x.pay(0, 1000);
        x.want(3, 2, 1);
        x.send(63);
        x.pass(2);
        x.want(0, 0, 5);
        x.want(1, 0, 1);
        x.send(63);
        check.due("parcel(-1, 0)", x.parcel(-1, 0), NO_SUCH);
        check.due("parcel(2, 9)", x.parcel(2, 9), NO_SUCH);
        check.due("parcel(5, 0)", x.parcel(5, 0), NO_SUCH);
        check.due("parcel(0, -1)", x.parcel(0, -1), BAD_VALUE);
        check.due("parcel(1, 5)", x.parcel(1, 5), BAD_VALUE);
        check.due("strings", x.parcel(0, 0), 1);
        check.due("value", x.parcel(0, 1), 20);
        check.due("owners", x.parcel(0, 2), 8);
        check.due("days", x.parcel(0, 3), 3);
        check.due("opened", x.parcel(0, 4), 0);
        check.due("strings", x.parcel(1, 0), 6);
        check.due("value with TIER", x.parcel(1, 1), 48);
        check.due("owners", x.parcel(1, 2), 3);
        check.due("days", x.parcel(1, 3), 5);
        x.pass(3);
        check.due("the lost string is out", x.parcel(0, 0), 0);
        check.due("the value stays", x.parcel(0, 1), 20);
        check.due("owners without the lost string", x.parcel(0, 2), 0);
        check.due("days until home", x.parcel(0, 3), 7);
        check.due("opened", x.parcel(0, 4), 1);
        check.due("the other one", x.parcel(1, 3), 2);
        x.set(4, 0);
        check.due("pass(2)", x.pass(2), 1);
        check.due("the first one stays", x.parcel(0, 3), 5);
        check.due("no second one", x.parcel(1, 0), NO_SUCH);
        x.want(2, 6, 1);
        x.send(63);
        check.due("pass(5)", x.pass(5), 2);
        check.due("none", x.parcel(0, 0), NO_SUCH);
    }

    private static void promise15Count() {
        check.about("15 count");
        HarpOrders x = new HarpOrders();
        check.due("count(-1)", x.count(-1), BAD_VALUE);
        check.due("count(19)", x.count(19), BAD_VALUE);
        int[] values = {2, 11, 2, 3, 4, 0, 50, 100, 100};
        for (int setting = 0; setting < 9; setting++) {
            x.set(setting, values[setting]);
        }
        for (int setting = 0; setting < 9; setting++) {
            check.due("count(" + setting + ")", x.count(setting), values[setting]);
        }
        x.snap(0, 0);
        x.snap(0, 7);
        x.snap(5, 3);
        check.due("broken strings", x.count(15), 3);
        x.pay(0, 300);
        x.pay(1, 200);
        check.due("chest", x.count(10), 500);
        Check.put(x, "a0:1");
        check.due("pad", x.count(17), 4);
        check.due("changes", x.count(18), 6);
        x.want(0, 0, 1);
        x.want(1, 0, 1);
        // 2 * 8 and 11 + 2 * 2.
        x.send(3);
        x.want(2, 7, 1);
        x.send(4);
        check.due("chest", x.count(10), 500 - 31 - 45 - 27);
        check.due("parcels", x.count(11), 2);
        x.pass(3);
        check.due("day", x.count(9), 3);
        check.due("opened", x.count(12), 2);
        check.due("duty", x.count(13), 8 + 22);
        check.due("chest", x.count(10), 500 - 31 - 45 - 27 - 30);
        check.due("lost", x.count(14), 2);
        check.due("parcels that wait", x.count(11), 2);
        x.pass(4);
        check.due("parcels", x.count(11), 0);
        check.due("opened so far", x.count(12), 2);
        x.shuffle(77);
        check.due("x", x.count(16), 77);
    }
}
