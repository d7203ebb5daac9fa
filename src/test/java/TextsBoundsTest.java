/** "Texts" and promises 6 and 22 to 24: the bounds that these sentences name, one method for each sentence. */
public final class TextsBoundsTest {
    private static final int BAD_VALUE = -100002, BAD_TEXT = -100003, TOO_MANY = -100004, NONE = -100006;
    private static final Check check = new Check();

    public static void main(String[] args) {
        upToSixty();
        members();
        gauges();
        manyTo20();
        leadingZeros();
        separators();
        firstWrongOne();
        endsTooEarly();
        emptyText();
        faultless();
        readAdds();
        readTo20();
        readOneAfterTheOther();
        readEmptiesThePad();
        readOfAFault();
        oneToEight();
        noCharacter();
        codes();
        bitsAboveZero();
        aboveSixty();
        lowestBitsLast();
        wipeLength();
        check.end();
    }

    private static int faultOf(String text) {
        HarpOrders x = new HarpOrders();
        Check.put(x, text);
        check.due("the length of " + text, x.count(17), text.length());
        return x.fault();
    }

    private static void upToSixty() {
        check.about("The pad is a text of at most 60 characters");
        HarpOrders x = new HarpOrders();
        for (int i = 1; i <= 60; i++) {
            check.due("put", x.put('a'), i);
        }
        check.due("one more", x.put('a'), TOO_MANY);
        check.due("the length stays", x.count(17), 60);
        check.due("wipe", x.wipe(), 60);
        check.due("put", x.put('a'), 1);
    }

    private static void members() {
        check.about("a member is a letter a to f");
        for (char letter = 'a'; letter <= 'f'; letter++) {
            check.due("" + letter, faultOf(letter + "0:1"), NONE);
            HarpOrders x = new HarpOrders();
            Check.put(x, letter + "0:1");
            x.read();
            check.due("its member", x.strings(letter - 'a', 0, true), 1);
        }
        for (char sign : "`gAFz0,;:~!".toCharArray()) {
            check.due("" + sign, faultOf(sign + "0:1"), 0);
            check.due("behind ;: " + sign, faultOf("a0:1;" + sign + "0:1"), 5);
        }
    }

    private static void gauges() {
        check.about("a gauge a digit 0 to 7");
        for (char digit = '0'; digit <= '7'; digit++) {
            check.due("" + digit, faultOf("a" + digit + ":1"), NONE);
            HarpOrders x = new HarpOrders();
            Check.put(x, "a" + digit + ":1");
            x.read();
            check.due("its gauge", x.strings(0, digit - '0', true), 1);
        }
        for (char sign : "89/:a,;".toCharArray()) {
            check.due("" + sign, faultOf("a" + sign + ":1"), 1);
            check.due("behind ,: " + sign, faultOf("a0:1," + sign + ":1"), 5);
        }
        check.due("two digits", faultOf("a01:1"), 2);
    }

    private static void manyTo20() {
        check.about("many a number from 1 to 20");
        for (int many = 1; many <= 20; many++) {
            check.due("" + many, faultOf("a0:" + many), NONE);
            HarpOrders x = new HarpOrders();
            Check.put(x, "a0:" + many);
            x.read();
            check.due("wanted", x.strings(0, 0, true), many);
        }
        check.due("0", faultOf("a0:0"), 3);
        for (int many = 21; many <= 99; many++) {
            check.due("" + many, faultOf("a0:" + many), 4);
        }
        for (int many = 100; many <= 209; many++) {
            check.due("" + many, faultOf("a0:" + many), 5);
        }
        for (char sign : "/:+-.a".toCharArray()) {
            check.due("" + sign, faultOf("a0:" + sign + "1"), 3);
            check.due("1" + sign, faultOf("a0:1" + sign), 4);
            check.due("2" + sign, faultOf("a0:2" + sign), 4);
            check.due("3" + sign, faultOf("a0:3" + sign), 4);
            check.due("10" + sign, faultOf("a0:10" + sign), 5);
        }
    }

    private static void leadingZeros() {
        check.about("without leading zeros");
        check.due("01", faultOf("a0:01"), 3);
        check.due("00", faultOf("a0:00"), 3);
        check.due("020", faultOf("a0:020"), 3);
        check.due("behind ,", faultOf("a0:1,0:05"), 7);
    }

    private static void separators() {
        check.about("text = part { \";\" part }; part = member want { \",\" want }; want = gauge \":\" many");
        check.due("parts", faultOf("a0:1;b1:2;a0:3"), NONE);
        check.due("wants", faultOf("a0:1,1:2,0:3"), NONE);
        check.due("a part's member behind ,", faultOf("a0:1,b1:2"), 5);
        check.due("a gauge behind ;", faultOf("a0:1;1:2"), 5);
        check.due("two ;", faultOf("a0:1;;b1:2"), 5);
        check.due("two ,", faultOf("a0:1,,1:2"), 5);
        check.due("two :", faultOf("a0::1"), 3);
        check.due("no :", faultOf("a0,1"), 2);
        check.due("a second :", faultOf("a0:1:2"), 4);
        check.due("a ; ahead", faultOf(";a0:1"), 0);
        check.due("a , ahead", faultOf(",a0:1"), 0);
        check.due("a , behind the member", faultOf("a,0:1"), 1);
    }

    private static void firstWrongOne() {
        check.about("The fault is the index of the first character that cannot stand at its place when the text is read from left to right");
        check.due("the first of all", faultOf("x"), 0);
        check.due("the first of two", faultOf("a9:99"), 1);
        check.due("the 60th", faultOf("a0:1;a0:1;a0:1;a0:1;a0:1;a0:1;a0:1;a0:1;a0:1;a0:1;a0:1;a0:1!"), 59);
        check.due("the 60th, at the place of a number", faultOf("a0:1" + ",0:1".repeat(13) + ",0:x"), 59);
        check.due("the 21 of 210", faultOf("a0:210"), 4);
        check.due("the third digit of 200", faultOf("a0:200"), 5);
    }

    private static void endsTooEarly() {
        check.about("if there is none and the text ends too early (also if it is empty), it is the length of the text");
        String[] texts = {"a", "f7", "a0:", "a0:1;", "a0:1,", "a0:20;", "a0:1,1", "a0:1,1:", "a0:1;b", "a0:1;b1", "a0:1;b1:"};
        for (String text : texts) {
            check.due(text, faultOf(text), text.length());
        }
        check.due("60 characters", faultOf("a0:1;".repeat(12)), 60);
        check.due("60 characters", faultOf("a0:1" + ",0:1".repeat(14)), NONE);
        check.due("59 characters", faultOf("a0:1" + ",0:1".repeat(13) + ",0:"), 59);
    }

    private static void emptyText() {
        check.about("(also if it is empty)");
        HarpOrders x = new HarpOrders();
        check.due("at first", x.fault(), 0);
        check.due("read", x.read(), BAD_TEXT);
        x.put('a');
        x.wipe();
        check.due("wiped", x.fault(), 0);
        Check.put(x, "a0:1");
        x.read();
        check.due("read already", x.fault(), 0);
        check.due("read again", x.read(), BAD_TEXT);
        check.due("once", x.strings(0, 0, true), 1);
    }

    private static void faultless() {
        check.about("Returns the fault of the pad, NONE if there is none.");
        HarpOrders x = new HarpOrders();
        Check.put(x, "a0:1");
        check.due("none", x.fault(), NONE);
        x.put('0');
        check.due("none", x.fault(), NONE);
        x.put('0');
        check.due("behind 10", x.fault(), 5);
        check.due("it stays", x.fault(), 5);
        check.due("the pad stays", x.count(17), 6);
        check.due("60 characters", faultOf("a0:1;".repeat(11) + "a0:19"), NONE);
    }

    private static void readAdds() {
        check.about("Adds the wants of the pad to those that there are");
        HarpOrders x = new HarpOrders();
        x.want(0, 0, 3);
        x.want(5, 7, 1);
        Check.put(x, "a0:1;f6:2");
        check.due("read", x.read(), 4 * 10 + 2 * 40 + 45 + 20 + 4 + 14 + 8);
        check.due("added", x.strings(0, 0, true), 4);
        check.due("new", x.strings(5, 6, true), 2);
        check.due("not in the pad", x.strings(5, 7, true), 1);
    }

    private static void readTo20() {
        check.about("(20 of a gauge at most; what is above that is left out)");
        int[][] rows = {{0, 20, 20}, {1, 19, 20}, {1, 20, 20}, {19, 1, 20}, {19, 2, 20}, {20, 1, 20}, {20, 20, 20}, {18, 1, 19}};
        for (int[] row : rows) {
            HarpOrders x = new HarpOrders();
            x.want(2, 3, row[0]);
            Check.put(x, "c3:" + row[1] + ",4:1");
            int cost = x.read();
            check.due(row[0] + " and " + row[1], x.strings(2, 3, true), row[2]);
            check.due("the next one", x.strings(2, 4, true), 1);
            check.due("what it costs", cost, row[2] * 20 + 30 + 20 + row[2] * 4 + 5);
        }
    }

    private static void readOneAfterTheOther() {
        check.about("one after the other");
        HarpOrders x = new HarpOrders();
        Check.put(x, "a0:15,0:4;b0:1;a1:20,1:1,0:1");
        x.read();
        check.due("15, 4 and 1", x.strings(0, 0, true), 20);
        check.due("of b", x.strings(1, 0, true), 1);
        check.due("20 and 1", x.strings(0, 1, true), 20);
        Check.put(x, "b0:19,0:20,0:1");
        x.read();
        check.due("20 at most, each time", x.strings(1, 0, true), 20);
    }

    private static void readEmptiesThePad() {
        check.about("and empties the pad");
        HarpOrders x = new HarpOrders();
        Check.put(x, "a0:1");
        x.read();
        check.due("the pad", x.count(17), 0);
        check.due("put", Check.put(x, "b1:1"), 4);
        x.read();
        check.due("not added again", x.strings(0, 0, true), 1);
        x.undo();
        x.undo();
        check.due("undo leaves it empty", x.count(17), 0);
    }

    private static void readOfAFault() {
        check.about("BAD_TEXT if the pad has a fault.");
        for (String text : new String[] {"", "a", "a0:0", "a0:1;", "a0:1,", "a0:21", "g0:1", "a0:1;b8:1", "a0:1!"}) {
            HarpOrders x = new HarpOrders();
            Check.put(x, text);
            check.due("read of " + text, x.read(), BAD_TEXT);
            check.due("nothing is wanted", x.order(63, 3), 0);
            check.due("the pad stays", x.count(17), text.length());
            check.due("no change", x.count(18), 0);
        }
    }

    private static void oneToEight() {
        check.about("1 to 8 characters");
        for (int many = 1; many <= 8; many++) {
            HarpOrders x = new HarpOrders();
            check.due("put " + many, x.put(Check.packed("a0:1,1:2".substring(0, many))), many);
            check.due("the fault", x.fault(), many == 4 || many == 8 ? NONE : many);
        }
    }

    private static void noCharacter() {
        check.about("BAD_VALUE if there is no character");
        HarpOrders x = new HarpOrders();
        check.due("put(0)", x.put(0), BAD_VALUE);
        x.put('a');
        check.due("put(0)", x.put(0), BAD_VALUE);
        check.due("the length", x.count(17), 1);
    }

    private static void codes() {
        check.about("BAD_VALUE if a code is not 33 to 126");
        for (int code = 1; code <= 255; code++) {
            boolean isGood = code >= 33 && code <= 126;
            for (int place = 0; place < 8; place++) {
                long characters = Check.packed("!!!!!!!!") & ~(255L << 8 * place) | (long) code << 8 * place;
                check.due("code " + code + " at " + place, new HarpOrders().put(characters), isGood ? 8 : BAD_VALUE);
            }
            check.due("code " + code + " alone", new HarpOrders().put(code), isGood ? 1 : BAD_VALUE);
        }
    }

    private static void bitsAboveZero() {
        check.about("BAD_VALUE if a bit above 8 bits that are 0 is not 0");
        for (int many = 0; many < 7; many++) {
            long below = (1L << 8 * many) - 1 & Check.packed("!!!!!!!!");
            for (int bit = 8 * many + 8; bit < 64; bit++) {
                check.due("bit " + bit + " above " + many, new HarpOrders().put(below | 1L << bit), BAD_VALUE);
            }
        }
        check.due("a character above", new HarpOrders().put((long) 'a' << 16 | 'a'), BAD_VALUE);
        check.due("the last eight above", new HarpOrders().put((long) 'a' << 56 | Check.packed("aaaaaa")), BAD_VALUE);
        check.due("the last eight are 0", new HarpOrders().put(Check.packed("aaaaaaa")), 7);
    }

    private static void aboveSixty() {
        check.about("TOO_MANY if the pad would be longer than 60.");
        for (int free = 0; free < 8; free++) {
            HarpOrders x = new HarpOrders();
            Check.put(x, "!".repeat(60 - free));
            check.due("one more than there is room for", x.put(Check.packed("!".repeat(free + 1))), TOO_MANY);
            check.due("the length stays", x.count(17), 60 - free);
            if (free > 0) {
                check.due("as many as there is room for", x.put(Check.packed("!".repeat(free))), 60);
            }
            check.due("one more", x.put('!'), TOO_MANY);
        }
    }

    private static void lowestBitsLast() {
        check.about("its lowest 8 bits are the last character, the next 8 bits the one before, and so on");
        HarpOrders x = new HarpOrders();
        check.due("a0:1", x.put(0x61303a31L), 4);
        check.due("no fault", x.fault(), NONE);
        x.read();
        check.due("wanted", x.strings(0, 0, true), 1);
        check.due("1:0a", x.put(0x313a3061L), 4);
        check.due("the first one is wrong", x.fault(), 0);
        x.wipe();
        check.due("f7:20,0:", x.put(0x66373a32302c303aL), 8);
        check.due("19", x.put(0x3139L), 10);
        x.read();
        check.due("f7", x.strings(5, 7, true), 20);
        check.due("f0", x.strings(5, 0, true), 19);
    }

    private static void wipeLength() {
        check.about("Empties the pad, and returns the length that it had.");
        HarpOrders x = new HarpOrders();
        check.due("empty", x.wipe(), 0);
        Check.put(x, "!".repeat(60));
        check.due("full", x.wipe(), 60);
        check.due("empty", x.wipe(), 0);
        check.due("the length", x.count(17), 0);
        check.due("no change", x.count(18), 0);
    }
}
