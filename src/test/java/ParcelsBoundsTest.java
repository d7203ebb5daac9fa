/** "Parcels, days", how a number is drawn, and promises 10, 11, 14 and 21: their bounds, one method for each sentence. */
public final class ParcelsBoundsTest {
    private static final int NO_SUCH = -100001, BAD_VALUE = -100002, TOO_MANY = -100004;
    private static final Check check = new Check();

    public static void main(String[] args) {
        upToFive();
        numberedAsSent();
        moveUp();
        travelDays();
        noDrawsBefore();
        byItsNumber();
        belowChance();
        chanceExtremes();
        freeValue();
        belowBreak();
        breakExtremes();
        lostByMembersAndGauges();
        lostOfEachGauge();
        lostOnlyString();
        waitDays();
        homeAtOnce();
        waitOfTheDay();
        openedOnce();
        above99();
        above99Together();
        drawing();
        drawBelow();
        passDays();
        passErrors();
        lastDay();
        homeByThat();
        shuffleNumbers();
        noSuchParcel();
        parcelWhat();
        parcelDays();
        withoutParcels();
        untilHomeExtremes();
        untilHomeDraws();
        above9999();
        check.end();
    }

    private static void upToFive() {
        check.about("There are up to 5 parcels");
        HarpOrders x = Clubs.full();
        check.due("parcels", x.count(11), 5);
        for (int parcel = 0; parcel < 5; parcel++) {
            check.due("parcel " + parcel, x.parcel(parcel, 0), 1);
        }
        check.due("a sixth", Clubs.sendOne(x, 0), TOO_MANY);
        check.due("parcel 5", x.parcel(5, 0), NO_SUCH);
        x.set(Clubs.CHANCE, 0);
        check.due("all are home", x.pass(5), 5);
        check.due("none is on its way", x.count(11), 0);
        check.due("spare", x.strings(0, 0, false), 5);
    }

    private static void numberedAsSent() {
        check.about("numbered in the order in which they were sent");
        HarpOrders x = new HarpOrders();
        x.pay(0, 1000);
        int[] travel = {9, 3, 20, 1, 6};
        for (int i = 0; i < 5; i++) {
            x.set(Clubs.TRAVEL, travel[i]);
            Clubs.sendOne(x, 5 - i);
        }
        for (int i = 0; i < 5; i++) {
            check.due("days of " + i, x.parcel(i, 3), travel[i]);
            check.due("owner of " + i, x.parcel(i, 2), 32 >> i);
        }
    }

    private static void moveUp() {
        check.about("(when one is home, those behind it move up)");
        HarpOrders x = new HarpOrders();
        x.set(Clubs.CHANCE, 0);
        x.pay(0, 1000);
        int[] travel = {9, 3, 20, 3, 6};
        for (int i = 0; i < 5; i++) {
            x.set(Clubs.TRAVEL, travel[i]);
            Clubs.sendOne(x, i);
        }
        check.due("the second and the fourth are home", x.pass(3), 2);
        owners("those between and behind move up", x, 1, 4, 16);
        check.due("the last is home", x.pass(3), 1);
        owners("those ahead stay", x, 1, 4);
        Clubs.sendOne(x, 5);
        owners("a new one is the last", x, 1, 4, 32);
        check.due("the first is home", x.pass(3), 1);
        owners("both move up", x, 4, 32);
        check.due("all are home", x.pass(60), 2);
        owners("none", x);
    }

    private static void owners(String what, HarpOrders x, int... due) {
        check.due(what, x.count(11), due.length);
        for (int i = 0; i < due.length; i++) {
            check.due(what + ", parcel " + i, x.parcel(i, 2), due[i]);
        }
        check.due(what + ", no more", x.parcel(due.length, 2), NO_SUCH);
    }

    private static void travelDays() {
        check.about("TRAVEL days behind the one on which it was sent");
        for (int travel : new int[] {1, 2, 19, 20}) {
            HarpOrders x = Clubs.quick();
            x.pay(0, 100);
            x.pass(13);
            x.set(Clubs.TRAVEL, travel);
            Clubs.sendOne(x, 0);
            check.due("days", x.parcel(0, 3), travel);
            for (int day = 1; day < travel; day++) {
                check.due("on its way", x.pass(1), 0);
                check.due("days", x.parcel(0, 3), travel - day);
            }
            check.due("home", x.pass(1), 1);
            check.due("spare", x.strings(0, 0, false), 1);
        }
    }

    private static void noDrawsBefore() {
        check.about("for each parcel, by its number, that comes to the customs on it: a number below 100 is drawn");
        HarpOrders x = Clubs.strict();
        check.due("without parcels", x.pass(60), 0);
        check.due("none is drawn", x.count(16), 1);
        x.set(Clubs.TRAVEL, 3);
        Clubs.sendOne(x, 0);
        x.pass(2);
        check.due("none before", x.count(16), 1);
        x.pass(1);
        check.due("whether it is opened, and whether a string is lost", x.count(16), Draws.after(1, 2));
        x.pass(6);
        check.due("none while it waits", x.count(16), Draws.after(1, 2));
        check.due("home", x.pass(1), 1);
        check.due("none at home", x.count(16), Draws.after(1, 2));
        x.set(Clubs.CHANCE, 0);
        Clubs.sendOne(x, 0);
        check.due("home at once", x.pass(3), 1);
        check.due("only whether it is opened", x.count(16), Draws.after(1, 3));
    }

    private static void byItsNumber() {
        check.about("for each parcel, by its number, that comes to the customs on it");
        HarpOrders x = Clubs.strict();
        x.set(Clubs.CHANCE, 50);
        for (int member = 1; member <= 3; member++) {
            Clubs.sendOne(x, member);
        }
        x.shuffle(Draws.like("L?HH"));
        check.due("the second and the third are home", x.pass(1), 2);
        owners("the first was opened", x, 2);
        x.undo();
        x.shuffle(Draws.like("HHL?"));
        check.due("the first and the second are home", x.pass(1), 2);
        owners("the third was opened", x, 8);
        x.undo();
        x.shuffle(Draws.like("L?HL?"));
        check.due("only the second is home", x.pass(1), 1);
        owners("the first and the third were opened", x, 2, 8);
        x.undo();
        x.set(Clubs.BREAK, 100);
        x.shuffle(Draws.like("L??HH"));
        check.due("the second and the third are home", x.pass(1), 2);
        check.due("the first lost its string", x.member(1, 8), 1);
    }

    /** Whether a parcel is opened if this number is drawn. */
    private static boolean isOpened(int chance, int drawn) {
        HarpOrders x = Clubs.strict();
        x.set(Clubs.CHANCE, chance);
        Clubs.sendOne(x, 0);
        x.shuffle(Draws.as(100, drawn));
        int home = x.pass(1);
        check.due("home or opened", home + x.count(12), 1);
        check.due("parcels", x.count(11), 1 - home);
        return home == 0;
    }

    private static void belowChance() {
        check.about("if it is below CHANCE, the parcel is opened, otherwise it is home at once");
        for (int chance : new int[] {1, 2, 50, 99}) {
            check.holds("1 less than " + chance, isOpened(chance, chance - 1));
            check.holds(chance + " itself", !isOpened(chance, chance));
            check.holds("0, below " + chance, isOpened(chance, 0));
            check.holds("99, not below " + chance, !isOpened(chance, 99));
        }
    }

    private static void chanceExtremes() {
        check.about("CHANCE (0 to 100; 50): hundredths");
        check.holds("0 is not below 0", !isOpened(0, 0));
        check.holds("99 is not below 0", !isOpened(0, 99));
        check.holds("99 is below 100", isOpened(100, 99));
        check.holds("0 is below 100", isOpened(100, 0));
    }

    private static int duty(int free, int dutyHundredths) {
        HarpOrders x = Clubs.strict();
        x.set(Clubs.FREE, free);
        x.set(Clubs.DUTY, dutyHundredths);
        x.want(1, 7, 2);
        x.want(2, 0, 1);
        check.due("value", x.send(6), 100);
        x.pass(1);
        check.due("all pay it together", x.member(1, 7) + x.member(2, 7), x.count(13));
        check.due("out of the chest", x.count(10), 2900 - x.count(13));
        check.due("opened, whatever it costs", x.count(12), 1);
        return x.count(13);
    }

    private static void freeValue() {
        check.about("the duty is (its value less FREE, 0 at least) * DUTY / 100");
        check.due("FREE above the value", duty(101, 50), 0);
        check.due("FREE far above the value", duty(500, 50), 0);
        check.due("FREE is the value", duty(100, 50), 0);
        check.due("half a penny, rounded down", duty(99, 50), 0);
        check.due("a penny", duty(98, 50), 1);
        check.due("without FREE", duty(0, 50), 50);
        check.due("without DUTY", duty(0, 0), 0);
        check.due("a hundredth", duty(0, 1), 1);
        check.due("99 times a hundredth, rounded down", duty(1, 1), 0);
    }

    /** How many strings are lost of a parcel of three, at the customs. */
    private static int lost(int breakHundredths, int drawn) {
        HarpOrders x = Clubs.strict();
        x.set(Clubs.BREAK, breakHundredths);
        x.want(3, 3, 3);
        x.send(8);
        int first = Draws.as(100, 7, 100, drawn);
        x.shuffle(first);
        x.pass(1);
        int lost = x.member(3, 8);
        check.due("draws", x.count(16), Draws.after(first, 2 + lost));
        check.due("strings of the parcel", x.parcel(0, 0), 3 - lost);
        check.due("on their way", x.member(3, 4), 3 - lost);
        check.due("lost by all", x.count(14), lost);
        return lost;
    }

    private static void belowBreak() {
        check.about("then a number below 100 is drawn, and if it is below BREAK, a string of it is lost");
        check.due("it is drawn, though BREAK is 0", lost(0, 50), 0);
        for (int breaks : new int[] {1, 2, 50, 99}) {
            check.due("1 less than " + breaks, lost(breaks, breaks - 1), 1);
            check.due(breaks + " itself", lost(breaks, breaks), 0);
            check.due("0, below " + breaks, lost(breaks, 0), 1);
            check.due("99, not below " + breaks, lost(breaks, 99), 0);
        }
    }

    private static void breakExtremes() {
        check.about("BREAK (0 to 100; 20): hundredths");
        check.due("0 is not below 0", lost(0, 0), 0);
        check.due("99 is not below 0", lost(0, 99), 0);
        check.due("99 is below 100", lost(100, 99), 1);
        check.due("0 is below 100", lost(100, 0), 1);
    }

    private static void lostByMembersAndGauges() {
        check.about("a number below how many strings it has is drawn, which tells the string, if they are gone through by members, and of a member by gauges");
        int[][] strings = {{1, 2}, {1, 2}, {1, 5}, {4, 0}, {4, 0}, {4, 0}, {4, 7}, {5, 1}};
        for (int drawn = 0; drawn < strings.length; drawn++) {
            HarpOrders x = Clubs.strict();
            x.set(Clubs.BREAK, 100);
            for (int[] string : strings) {
                x.want(string[0], string[1], x.strings(string[0], string[1], true) + 1);
            }
            x.send(63);
            x.shuffle(Draws.as(100, 0, 100, 99, 8, drawn));
            x.pass(1);
            int member = strings[drawn][0];
            int gauge = strings[drawn][1];
            int sent = member == 1 && gauge == 2 ? 2 : member == 4 && gauge == 0 ? 3 : 1;
            check.due("lost by " + member, x.member(member, 8), 1);
            check.due("lost by all", x.count(14), 1);
            check.due("strings of the parcel", x.parcel(0, 0), 7);
            check.due("home", x.pass(7), 1);
            check.due("spare of gauge " + gauge, x.strings(member, gauge, false), sent - 1);
            check.due("spare of all", x.member(1, 2) + x.member(4, 2) + x.member(5, 2), 7);
        }
    }

    private static void lostOfEachGauge() {
        check.about("a number below how many strings it has is drawn: the first and the last of all");
        for (int drawn : new int[] {0, 47}) {
            HarpOrders x = Clubs.strict();
            x.set(Clubs.BREAK, 100);
            for (int member = 0; member < 6; member++) {
                for (int gauge = 0; gauge < 8; gauge++) {
                    x.want(member, gauge, 1);
                }
            }
            x.send(63);
            x.shuffle(Draws.as(100, 0, 100, 0, 48, drawn));
            x.pass(8);
            check.due("the first member", x.member(0, 8), drawn == 0 ? 1 : 0);
            check.due("its first string", x.strings(0, 0, false), drawn == 0 ? 0 : 1);
            check.due("the last member", x.member(5, 8), drawn == 0 ? 0 : 1);
            check.due("its last string", x.strings(5, 7, false), drawn == 0 ? 1 : 0);
        }
    }

    private static void lostOnlyString() {
        check.about("a string of it is lost: its only one");
        HarpOrders x = Clubs.strict();
        x.set(Clubs.BREAK, 100);
        Clubs.sendOne(x, 2);
        x.shuffle(1);
        check.due("it waits", x.pass(1), 0);
        check.due("three are drawn", x.count(16), Draws.after(1, 3));
        check.due("strings", x.parcel(0, 0), 0);
        check.due("owners", x.parcel(0, 2), 0);
        check.due("its owner paid the duty", x.member(2, 7), 2);
        check.due("home", x.pass(7), 1);
        check.due("spare", x.member(2, 2), 0);
        check.due("lost", x.member(2, 8), 1);
    }

    private static void waitDays() {
        check.about("and it is home WAIT days later (at once, if WAIT is 0)");
        for (int wait : new int[] {1, 2, 7, 29, 30}) {
            HarpOrders x = Clubs.strict();
            x.set(Clubs.WAIT, wait);
            Clubs.sendOne(x, 0);
            check.due("opened", x.pass(1), 0);
            check.due("days", x.parcel(0, 3), wait);
            if (wait > 1) {
                check.due("it waits", x.pass(wait - 1), 0);
            }
            check.due("days", x.parcel(0, 3), 1);
            check.due("no spare string before", x.member(0, 2), 0);
            check.due("home", x.pass(1), 1);
            check.due("spare", x.member(0, 2), 1);
        }
    }

    private static void homeAtOnce() {
        check.about("(at once, if WAIT is 0)");
        HarpOrders x = Clubs.strict();
        x.set(Clubs.WAIT, 0);
        x.set(Clubs.BREAK, 100);
        x.want(0, 1, 2);
        x.send(1);
        x.shuffle(1);
        check.due("home on the day on which it is opened", x.pass(1), 1);
        check.due("opened", x.count(12), 1);
        check.due("duty", x.count(13), 6);
        check.due("lost", x.count(14), 1);
        check.due("spare", x.strings(0, 1, false), 1);
        check.due("parcels", x.count(11), 0);
        check.due("three are drawn", x.count(16), Draws.after(1, 3));
        x.set(Clubs.WAIT, 1);
        Clubs.sendOne(x, 0);
        check.due("not at once, if WAIT is 1", x.pass(1), 0);
    }

    private static void waitOfTheDay() {
        check.about("it is home WAIT days later: the WAIT of the day on which it is opened");
        HarpOrders x = Clubs.strict();
        Clubs.sendOne(x, 0);
        x.set(Clubs.WAIT, 3);
        x.pass(1);
        check.due("days", x.parcel(0, 3), 3);
        x.set(Clubs.WAIT, 0);
        check.due("days", x.parcel(0, 3), 3);
        check.due("it waits", x.pass(2), 0);
        check.due("home", x.pass(1), 1);
    }

    private static void openedOnce() {
        check.about("or, if it was opened, home");
        HarpOrders x = Clubs.strict();
        Clubs.sendOne(x, 0);
        x.pass(1);
        check.due("opened", x.count(12), 1);
        check.due("home, and not at the customs again", x.pass(7), 1);
        check.due("opened", x.count(12), 1);
        check.due("duty", x.count(13), 2);
        check.due("spare", x.member(0, 2), 1);
    }

    private static void above99() {
        check.about("(99 of a gauge at most; what is above that is lost)");
        HarpOrders x = Clubs.quick();
        Clubs.stock(x, 2, 6, 97);
        Clubs.stock(x, 2, 6, 2);
        check.due("97 and 2", x.strings(2, 6, false), 99);
        check.due("none is lost", x.member(2, 8), 0);
        Clubs.stock(x, 2, 6, 1);
        check.due("99 and 1", x.strings(2, 6, false), 99);
        check.due("1 is lost", x.member(2, 8), 1);
        Clubs.stock(x, 2, 6, 20);
        check.due("99 and 20", x.strings(2, 6, false), 99);
        check.due("20 are lost", x.member(2, 8), 21);
        Clubs.stock(x, 2, 5, 20);
        check.due("another gauge", x.strings(2, 5, false), 20);
        Clubs.stock(x, 3, 6, 20);
        check.due("another member", x.strings(3, 6, false), 20);
        check.due("none is lost of these", x.count(14), 21);
        x.snap(2, 6);
        x.fit(2, 6, 6);
        Clubs.stock(x, 2, 6, 2);
        check.due("98 and 2", x.strings(2, 6, false), 99);
        check.due("1 is lost", x.member(2, 8), 22);
    }

    private static void above99Together() {
        check.about("99 of a gauge at most; what is above that is lost: of two parcels on a day");
        HarpOrders x = Clubs.quick();
        Clubs.stock(x, 0, 0, 85);
        x.pay(0, 1000);
        for (int i = 0; i < 2; i++) {
            x.want(0, 0, 10);
            x.want(1, 0, 1);
            x.send(3);
        }
        check.due("home", x.pass(1), 2);
        check.due("85, 10 and 10", x.strings(0, 0, false), 99);
        check.due("6 are lost", x.member(0, 8), 6);
        check.due("another member", x.strings(1, 0, false), 2);
        check.due("which loses none", x.member(1, 8), 0);
    }

    private static void drawing() {
        check.about("x (0 to 2147483647; 1 at first) becomes (x * 1103515245 + 12345) left over by 2147483648");
        int[][] next = {{0, 12345}, {1, 1103527590}, {2147483647, 1043980748}, {1073741824, 1073754169}, {2, 59559187}};
        for (int[] row : next) {
            HarpOrders x = Clubs.strict();
            x.set(Clubs.CHANCE, 0);
            Clubs.sendOne(x, 0);
            x.shuffle(row[0]);
            x.pass(1);
            check.due("x behind " + row[0], x.count(16), row[1]);
        }
        HarpOrders x = Clubs.strict();
        x.set(Clubs.BREAK, 100);
        x.shuffle(0);
        Clubs.sendOne(x, 0);
        x.pass(1);
        check.due("x behind three draws", x.count(16), Draws.after(0, 3));
    }

    private static void drawBelow() {
        check.about("(x / 65536, rounded down) left over by m is drawn");
        // What x is, what it becomes, and what is drawn.
        int[][] rows = {{20036382, 6553599, 99}, {1877714563, 6553600, 0}, {1821817630, 6619135, 0}, {1532012163, 6619136, 1},
            {2088216195, 0, 0}, {2032319262, 65535, 0}, {230538014, 2147483647, 67}};
        for (int[] row : rows) {
            for (int chance = row[2]; chance <= row[2] + 1; chance++) {
                HarpOrders x = Clubs.strict();
                x.set(Clubs.CHANCE, chance);
                x.set(Clubs.WAIT, 0);
                Clubs.sendOne(x, 0);
                x.shuffle(row[0]);
                x.pass(1);
                boolean isOpened = chance > row[2];
                check.due("opened behind an x of " + row[1], x.count(12), isOpened ? 1 : 0);
                check.due("x", x.count(16), isOpened ? Draws.after(row[1], 1) : row[1]);
            }
        }
    }

    private static void passDays() {
        check.about("1 to 60");
        HarpOrders x = new HarpOrders();
        check.due("1", x.pass(1), 0);
        check.due("day", x.count(9), 1);
        check.due("60", x.pass(60), 0);
        check.due("day", x.count(9), 61);
    }

    private static void passErrors() {
        check.about("BAD_VALUE if days is out of range");
        HarpOrders x = new HarpOrders();
        for (int days : new int[] {Integer.MIN_VALUE, -60, -1, 0, 61, 9999, Integer.MAX_VALUE}) {
            check.due("pass(" + days + ")", x.pass(days), BAD_VALUE);
        }
        check.due("day", x.count(9), 0);
    }

    private static void lastDay() {
        check.about("TOO_MANY if the day would be above 9999.");
        HarpOrders x = new HarpOrders();
        for (int i = 0; i < 166; i++) {
            x.pass(60);
        }
        check.due("day", x.count(9), 9960);
        check.due("10000", x.pass(40), TOO_MANY);
        check.due("10020", x.pass(60), TOO_MANY);
        check.due("9998", x.pass(38), 0);
        check.due("10000", x.pass(2), TOO_MANY);
        check.due("9999", x.pass(1), 0);
        check.due("10000", x.pass(1), TOO_MANY);
        check.due("day", x.count(9), 9999);
        x.undo();
        check.due("day", x.count(9), 9998);
        check.due("9999 again", x.pass(1), 0);
    }

    private static void homeByThat() {
        check.about("Returns how many parcels are home by that");
        HarpOrders x = Clubs.quick();
        x.pay(0, 1000);
        for (int travel : new int[] {4, 1, 4, 2, 20}) {
            x.set(Clubs.TRAVEL, travel);
            Clubs.sendOne(x, 0);
        }
        check.due("one on the first day", x.pass(1), 1);
        check.due("three by the fourth day, one of them before", x.pass(3), 3);
        check.due("none", x.pass(15), 0);
        check.due("one", x.pass(60), 1);
        check.due("none any more", x.pass(60), 0);
        HarpOrders opened = Clubs.strict();
        Clubs.sendOne(opened, 0);
        Clubs.sendOne(opened, 1);
        check.due("opened and home", opened.pass(8), 2);
    }

    private static void shuffleNumbers() {
        check.about("0 to 2147483647");
        HarpOrders x = new HarpOrders();
        check.due("the most", x.shuffle(2147483647), 1);
        check.due("the least", x.shuffle(0), 2147483647);
        check.due("x", x.count(16), 0);
        for (int number : new int[] {Integer.MIN_VALUE, -2147483647, -2, -1}) {
            check.due("shuffle(" + number + ")", x.shuffle(number), BAD_VALUE);
        }
        check.due("it stays", x.shuffle(5), 0);
    }

    private static void noSuchParcel() {
        check.about("NO_SUCH if there is no such parcel");
        HarpOrders x = Clubs.quick();
        check.due("without parcels", x.parcel(0, 0), NO_SUCH);
        x.pay(0, 1000);
        Clubs.sendOne(x, 0);
        check.due("the first", x.parcel(0, 0), 1);
        for (int parcel : new int[] {Integer.MIN_VALUE, -1, 1, 4, 5, Integer.MAX_VALUE}) {
            check.due("parcel(" + parcel + ", 0)", x.parcel(parcel, 0), NO_SUCH);
        }
        x.pass(1);
        check.due("it is home", x.parcel(0, 0), NO_SUCH);
        x.undo();
        check.due("it is not home", x.parcel(0, 0), 1);
        x.undo();
        check.due("it is not sent", x.parcel(0, 0), NO_SUCH);
    }

    private static void parcelWhat() {
        check.about("BAD_VALUE if what is out of range.");
        HarpOrders x = Clubs.full();
        for (int what : new int[] {Integer.MIN_VALUE, -1, 5, Integer.MAX_VALUE}) {
            check.due("parcel(0, " + what + ")", x.parcel(0, what), BAD_VALUE);
            check.due("parcel(4, " + what + ")", x.parcel(4, what), BAD_VALUE);
        }
        check.due("0 its strings", x.parcel(4, 0), 1);
        check.due("1 its value", x.parcel(4, 1), 10);
        check.due("2 its members", x.parcel(4, 2), 1);
        check.due("3 its days", x.parcel(4, 3), 5);
        check.due("4 not opened", x.parcel(4, 4), 0);
    }

    private static void parcelDays() {
        check.about("3 in how many days it comes to the customs, or home, 4 whether it was opened (1 or 0)");
        HarpOrders x = Clubs.strict();
        x.set(Clubs.TRAVEL, 20);
        x.set(Clubs.WAIT, 30);
        Clubs.sendOne(x, 0);
        check.due("days", x.parcel(0, 3), 20);
        x.pass(19);
        check.due("tomorrow to the customs", x.parcel(0, 3), 1);
        check.due("not opened", x.parcel(0, 4), 0);
        x.pass(1);
        check.due("days until it is home", x.parcel(0, 3), 30);
        check.due("opened", x.parcel(0, 4), 1);
        x.pass(29);
        check.due("tomorrow home", x.parcel(0, 3), 1);
        x.pass(1);
        check.due("home", x.parcel(0, 3), NO_SUCH);
    }

    private static void withoutParcels() {
        check.about("Returns how many (0 without parcels).");
        HarpOrders x = Clubs.quick();
        check.due("at first", x.untilHome(), 0);
        x.pay(0, 100);
        Clubs.sendOne(x, 0);
        check.due("tomorrow", x.untilHome(), 1);
        x.pass(1);
        check.due("home", x.untilHome(), 0);
    }

    private static void untilHomeExtremes() {
        check.about("Tells behind how many days all parcels are home, if nothing else is done");
        HarpOrders x = Clubs.strict();
        x.set(Clubs.TRAVEL, 20);
        x.set(Clubs.WAIT, 30);
        Clubs.sendOne(x, 0);
        check.due("the longest way", x.untilHome(), 50);
        x.set(Clubs.WAIT, 0);
        check.due("home at once", x.untilHome(), 20);
        x.set(Clubs.CHANCE, 0);
        x.set(Clubs.WAIT, 30);
        check.due("not opened", x.untilHome(), 20);
        x.set(Clubs.TRAVEL, 1);
        Clubs.sendOne(x, 1);
        check.due("the last of all", x.untilHome(), 20);
        x.set(Clubs.CHANCE, 100);
        x.pass(20);
        check.due("one waits for 30 days", x.untilHome(), 30);
        x.pass(29);
        check.due("tomorrow", x.untilHome(), 1);
        check.due("pass", x.pass(1), 1);
        check.due("home", x.untilHome(), 0);
    }

    private static void untilHomeDraws() {
        check.about("with the draws from the x of now on");
        HarpOrders x = Clubs.strict();
        x.set(Clubs.CHANCE, 50);
        Clubs.sendOne(x, 0);
        Clubs.sendOne(x, 1);
        x.shuffle(Draws.as(100, 50, 100, 50));
        check.due("none is opened", x.untilHome(), 1);
        x.shuffle(Draws.as(100, 50, 100, 49));
        check.due("the second is opened", x.untilHome(), 8);
        x.shuffle(Draws.as(100, 49, 100, 0, 100, 50));
        int first = x.count(16);
        check.due("the first is opened", x.untilHome(), 8);
        check.due("nothing is drawn by that", x.count(16), first);
        check.due("and nothing else is different", x.count(11), 2);
        check.due("nor is it the next time", x.untilHome(), 8);
        check.due("pass 7", x.pass(7), 1);
        check.due("pass 1", x.pass(1), 1);
    }

    private static void above9999() {
        check.about("(the bound of 9999 does not matter)");
        HarpOrders x = Clubs.strict();
        Clubs.toLastDay(x);
        x.set(Clubs.TRAVEL, 20);
        x.set(Clubs.WAIT, 30);
        Clubs.sendOne(x, 0);
        check.due("day", x.count(9), 9999);
        check.due("above 9999", x.untilHome(), 50);
        check.due("days to the customs", x.parcel(0, 3), 20);
        check.due("the day stays", x.count(9), 9999);
        check.due("pass", x.pass(1), TOO_MANY);
    }
}
