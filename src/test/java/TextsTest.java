/** Promises 6 and 22 to 24: read, and the pad. */
public final class TextsTest {
    private static final int BAD_VALUE = -100002, BAD_TEXT = -100003, TOO_MANY = -100004, NONE = -100006;
    private static final Check check = new Check();

    public static void main(String[] args) {
        promise6Read();
        promise6ReadIsAChange();
        promise22Put();
        promise22Sixty();
        promise23Wipe();
        promise24Fault();
        promise24EveryCharacter();
        check.end();
    }

    private static void promise6Read() {
        check.about("6 read");
        HarpOrders x = new HarpOrders();
        check.due("an empty pad", x.read(), BAD_TEXT);
        Check.put(x, "a0:5,7:1;f3:20;a0:10");
        x.want(1, 1, 1);
        x.want(0, 7, 2);
        check.due("read()", x.read(), 15 * 8 + 3 * 45 + 15 + 20 * 20 + 20 + 15 + 24 + 2 + 80);
        check.due("a0", x.strings(0, 0, true), 15);
        check.due("a7", x.strings(0, 7, true), 3);
        check.due("f3", x.strings(5, 3, true), 20);
        check.due("b1 stays", x.strings(1, 1, true), 1);
        check.due("the pad is empty", x.count(17), 0);
        check.due("an empty pad", x.read(), BAD_TEXT);
        Check.put(x, "a0:6,1:19,1:1");
        x.read();
        check.due("20 at most", x.strings(0, 0, true), 20);
        check.due("one after the other", x.strings(0, 1, true), 20);
        Check.put(x, "c4:2,4:9;b6:11;d2:3");
        x.read();
        check.due("c4", x.strings(2, 4, true), 11);
        check.due("b6", x.strings(1, 6, true), 11);
        check.due("d2", x.strings(3, 2, true), 3);
        Check.put(x, "e5:1;e5:1;e5:1;e5:1;e5:1;e5:1;e5:1;e5:1;e5:1;e5:1;e5:1;e5:1");
        x.read();
        check.due("a text of 59", x.strings(4, 5, true), 12);
    }

    private static void promise6ReadIsAChange() {
        check.about("6 read, a change");
        HarpOrders x = new HarpOrders();
        Check.put(x, "a0:1;");
        check.due("a fault", x.read(), BAD_TEXT);
        check.due("the pad stays", x.count(17), 5);
        check.due("nothing is added", x.member(0, 3), 0);
        check.due("no change", x.count(18), 0);
        Check.put(x, "b1:2");
        check.due("read()", x.read(), 10 + 30 + 20 + 5);
        check.due("a change", x.count(18), 1);
        check.due("undo()", x.undo(), 0);
        check.due("wants are as before", x.order(63, 3), 0);
        check.due("the pad stays empty", x.count(17), 0);
    }

    private static void promise22Put() {
        check.about("22 put");
        HarpOrders x = new HarpOrders();
        check.due("no character", x.put(0), BAD_VALUE);
        check.due("a code of 32", x.put(32), BAD_VALUE);
        check.due("a code of 127", x.put(127), BAD_VALUE);
        check.due("a code of 128", x.put(128), BAD_VALUE);
        check.due("a code of 32 above", x.put(32 << 8 | 'a'), BAD_VALUE);
        check.due("a zero below", x.put('a' << 8), BAD_VALUE);
        check.due("a zero between", x.put('a' << 16 | '1'), BAD_VALUE);
        check.due("the highest bit above a zero", x.put(Long.MIN_VALUE | 'a'), BAD_VALUE);
        check.due("the highest bit of the eighth", x.put(Check.packed("aaaaaaaa") | Long.MIN_VALUE), BAD_VALUE);
        check.due("-1", x.put(-1), BAD_VALUE);
        check.due("nothing was put", x.count(17), 0);
        check.due("codes 33 and 126", x.put(33 << 8 | 126), 2);
        check.due("it is no change", x.count(18), 0);
        x.wipe();
        check.due("eight", x.put(Check.packed("a0:1,2:3")), 8);
        check.due("one", x.put('0'), 9);
        check.due("one", x.put('0'), 10);
        check.due("the order of the characters", x.fault(), 8);
        x.wipe();
        Check.put(x, "a0:1,2:3,7:20;b5:4");
        x.read();
        check.due("a0", x.strings(0, 0, true), 1);
        check.due("a2", x.strings(0, 2, true), 3);
        check.due("a7", x.strings(0, 7, true), 20);
        check.due("b5", x.strings(1, 5, true), 4);
    }

    private static void promise22Sixty() {
        check.about("22 put, sixty");
        HarpOrders x = new HarpOrders();
        for (int i = 1; i <= 7; i++) {
            check.due("put", x.put(Check.packed("!!!!!!!!")), 8 * i);
        }
        check.due("61", x.put(Check.packed("!!!!!")), TOO_MANY);
        check.due("64", x.put(Check.packed("!!!!!!!!")), TOO_MANY);
        check.due("the length stays", x.count(17), 56);
        check.due("a bad value before too many", x.put(Check.packed("!!!!!!! ")), BAD_VALUE);
        check.due("60", x.put(Check.packed("!!!!")), 60);
        check.due("61", x.put('!'), TOO_MANY);
        check.due("length", x.count(17), 60);
    }

    private static void promise23Wipe() {
        check.about("23 wipe");
        HarpOrders x = new HarpOrders();
        check.due("an empty pad", x.wipe(), 0);
        Check.put(x, "a0:1;b1:12");
        check.due("wipe()", x.wipe(), 10);
        check.due("wipe()", x.wipe(), 0);
        check.due("length", x.count(17), 0);
        check.due("it is no change", x.count(18), 0);
        Check.put(x, "c2:1");
        x.read();
        check.due("what was wiped is gone", x.order(63, 3), 1);
    }

    private static void fault(String text, int due) {
        HarpOrders x = new HarpOrders();
        Check.put(x, text);
        check.due("fault of " + text, x.fault(), due);
        check.due("read of " + text, x.read() == BAD_TEXT ? 1 : 0, due == NONE ? 0 : 1);
    }

    private static void promise24Fault() {
        check.about("24 fault");
        fault("", 0);
        fault("a", 1);
        fault("a0", 2);
        fault("a0:", 3);
        fault("a0:1", NONE);
        fault("a0:1,", 5);
        fault("a0:1;", 5);
        fault("a0:1;b", 6);
        fault("a0:1,b", 5);
        fault("a0:1;1", 5);
        fault("g0:1", 0);
        fault("A0:1", 0);
        fault("f7:20", NONE);
        fault("a8:1", 1);
        fault("a01", 2);
        fault("a0:0", 3);
        fault("a0:01", 3);
        fault("a0:10", NONE);
        fault("a0:19", NONE);
        fault("a0:100", 5);
        fault("a0:2", NONE);
        fault("a0:21", 4);
        fault("a0:200", 5);
        fault("a0:30", 4);
        fault("a0:99", 4);
        fault("a0:1:", 4);
        fault("a0:11,1:2;a0:20,0:3;a0:9", NONE);
        fault("a0:11,1:2;a0:20,0:3;a0:9.", 24);
        fault(";a0:1", 0);
        fault("a0:1;;a0:1", 5);
        fault("a0:1,,0:1", 5);
        fault("!", 0);
        fault("a0:1;a0:1;a0:1;a0:1;a0:1;a0:1;a0:1;a0:1;a0:1;a0:1;a0:1;a0:10", NONE);
        fault("a0:1;a0:1;a0:1;a0:1;a0:1;a0:1;a0:1;a0:1;a0:1;a0:1;a0:1;a0:1;", 60);
        fault("a0:1;a0:1;a0:1;a0:1;a0:1;a0:1;a0:1;a0:1;a0:1;a0:1;a0:1;a0:1~", 59);
    }

    /** What may stand behind each beginning, by every character that the pad takes. */
    private static void promise24EveryCharacter() {
        check.about("24 fault, every character");
        String[] beginnings = {"", "a", "a0", "a0:", "a0:1", "a0:2", "a0:3", "a0:10", "a0:20", "a0:1,", "a0:1;"};
        String[] due = {"abcdef", "01234567", ":", "123456789", "0123456789,;", "0,;", ",;", ",;", ",;",
            "01234567", "abcdef"};
        for (int i = 0; i < beginnings.length; i++) {
            for (char sign = 33; sign <= 126; sign++) {
                HarpOrders x = new HarpOrders();
                Check.put(x, beginnings[i] + sign);
                boolean isFault = x.fault() == beginnings[i].length();
                check.holds("fault of " + beginnings[i] + sign, isFault == (due[i].indexOf(sign) < 0));
            }
        }
    }
}
