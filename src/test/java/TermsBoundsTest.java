/** "Settings", "Members, strings" and promise 1: the bounds that these sentences name, one method for each sentence. */
public final class TermsBoundsTest {
    private static final int NO_SUCH = -100001, BAD_VALUE = -100002, NOT_POSSIBLE = -100005;
    private static final Check check = new Check();

    public static void main(String[] args) {
        newClub();
        settings();
        noSuchSetting();
        previousValue();
        parcelsKeepTheirDays();
        sixMembers();
        eightGauges();
        pricesAndWeights();
        harps();
        spareFrom0();
        spareTo99();
        wantsTo20();
        accountsBelow0();
        chest();
        check.end();
    }

    private static void newClub() {
        check.about("Creates a club on the day 0, with whole harps, without spare strings.");
        HarpOrders x = new HarpOrders();
        check.due("the day", x.count(9), 0);
        check.due("broken strings", x.count(15), 0);
        for (int member = 0; member < 6; member++) {
            check.due("broken", x.member(member, 1), 0);
            check.due("spare", x.member(member, 2), 0);
            check.due("wanted", x.member(member, 3), 0);
            check.due("account", x.member(member, 0), 0);
            for (int string = 0; string < 8; string++) {
                check.due("spare", x.strings(member, string, false), 0);
                check.due("a whole string", x.fit(member, string, string), NOT_POSSIBLE);
            }
        }
        check.due("x", x.count(16), 1);
        check.due("parcels", x.count(11), 0);
        check.due("the pad", x.count(17), 0);
        check.due("nothing to undo", x.undo(), NOT_POSSIBLE);
        check.due("nothing saved", x.restore(0), NOT_POSSIBLE);
        check.due("nothing saved", x.restore(1), NOT_POSSIBLE);
    }

    private static void settings() {
        setting("TIER (2 to 20; 5)", 0, 2, 20, 5);
        setting("BASE (0 to 99; 20)", 1, 0, 99, 20);
        setting("HEAVY (0 to 9; 1)", 2, 0, 9, 1);
        setting("TRAVEL (1 to 20; 5)", 3, 1, 20, 5);
        setting("WAIT (0 to 30; 7)", 4, 0, 30, 7);
        setting("FREE (0 to 500; 100)", 5, 0, 500, 100);
        setting("DUTY (0 to 50; 20)", 6, 0, 50, 20);
        setting("CHANCE (0 to 100; 50)", 7, 0, 100, 50);
        setting("BREAK (0 to 100; 20)", 8, 0, 100, 20);
    }

    private static void setting(String sentence, int setting, int least, int most, int first) {
        check.about(sentence);
        HarpOrders x = new HarpOrders();
        check.due("at first", x.count(setting), first);
        for (int value : new int[] {Integer.MIN_VALUE, -1 - most, least - 1, most + 1, Integer.MAX_VALUE}) {
            check.due("set to " + value, x.set(setting, value), BAD_VALUE);
            check.due("it stays", x.count(setting), first);
        }
        check.due("set to the least", x.set(setting, least), first);
        check.due("the least", x.count(setting), least);
        check.due("set to the most", x.set(setting, most), least);
        check.due("the most", x.count(setting), most);
    }

    private static void noSuchSetting() {
        check.about("BAD_VALUE if there is no such setting, or value is out of its range.");
        HarpOrders x = new HarpOrders();
        for (int setting : new int[] {Integer.MIN_VALUE, -1, 9, 10, Integer.MAX_VALUE}) {
            check.due("set " + setting, x.set(setting, 5), BAD_VALUE);
        }
        check.due("the first one", x.set(0, 5), 5);
        check.due("the last one", x.set(8, 5), 20);
    }

    private static void previousValue() {
        check.about("Returns the previous value");
        HarpOrders x = new HarpOrders();
        check.due("set(1, 0)", x.set(1, 0), 20);
        check.due("set(1, 0) again", x.set(1, 0), 0);
        check.due("a refused one is no value", x.set(1, 100), BAD_VALUE);
        check.due("set(1, 99)", x.set(1, 99), 0);
        x.undo();
        check.due("an undone one is none", x.set(1, 5), 0);
    }

    private static void parcelsKeepTheirDays() {
        check.about("parcels that are on their way keep their days");
        HarpOrders x = Clubs.strict();
        x.set(Clubs.TRAVEL, 20);
        Clubs.sendOne(x, 0);
        x.set(Clubs.TRAVEL, 1);
        check.due("to the customs, less", x.parcel(0, 3), 20);
        x.pass(19);
        check.due("not opened", x.parcel(0, 4), 0);
        x.set(Clubs.TRAVEL, 20);
        x.pass(1);
        check.due("opened", x.parcel(0, 4), 1);
        x.set(Clubs.WAIT, 0);
        check.due("home, less", x.parcel(0, 3), 7);
        x.set(Clubs.WAIT, 30);
        check.due("home, more", x.parcel(0, 3), 7);
        check.due("not home", x.pass(6), 0);
        check.due("home", x.pass(1), 1);
    }

    private static void sixMembers() {
        check.about("There are 6 members, 0 to 5");
        HarpOrders x = new HarpOrders();
        for (int member = 0; member < 6; member++) {
            check.due("pay", x.pay(member, 10 + member), 10 + member);
            check.due("snap", x.snap(member, member), 1);
            check.due("account", x.member(member, 0), 10 + member);
        }
        for (int member : new int[] {-1, 6, 7, 8}) {
            check.due("pay", x.pay(member, 1), NO_SUCH);
            check.due("snap", x.snap(member, 7), NO_SUCH);
            check.due("member", x.member(member, 0), NO_SUCH);
            check.due("strings", x.strings(member, 0, true), NO_SUCH);
            check.due("want", x.want(member, 0, 1), NO_SUCH);
            check.due("ifMore", x.ifMore(member, 0, 1), NO_SUCH);
        }
        check.due("the chest", x.count(10), 75);
    }

    private static void eightGauges() {
        check.about("8 gauges, 0 to 7");
        HarpOrders x = new HarpOrders();
        for (int gauge = 0; gauge < 8; gauge++) {
            check.holds("want", x.want(5, gauge, gauge + 1) > 0);
            check.due("wanted", x.strings(5, gauge, true), gauge + 1);
            check.due("snap", x.snap(5, gauge), gauge + 1);
        }
        for (int gauge : new int[] {-1, 8, 9}) {
            check.due("want", x.want(5, gauge, 1), NO_SUCH);
            check.due("strings", x.strings(5, gauge, true), NO_SUCH);
            check.due("snap", x.snap(4, gauge), NO_SUCH);
            check.due("ifMore", x.ifMore(0, gauge, 1), NO_SUCH);
        }
        check.due("wanted, all", x.member(5, 3), 36);
    }

    private static void pricesAndWeights() {
        check.about("A string of the gauge g costs 10 + 5 * g, and weighs 1 + g.");
        int[] prices = {10, 15, 20, 25, 30, 35, 40, 45};
        for (int gauge = 0; gauge < 8; gauge++) {
            HarpOrders x = new HarpOrders();
            x.set(Clubs.BASE, 0);
            x.want(0, gauge, 1);
            check.due("price of " + gauge, x.order(1, 1), prices[gauge]);
            check.due("weight of " + gauge, x.order(1, 2), gauge + 1);
        }
    }

    private static void harps() {
        check.about("A member has a harp with the strings 0 to 7, each whole or broken (whole at first)");
        HarpOrders x = new HarpOrders();
        int broken = 0;
        for (int string = 7; string >= 0; string--) {
            broken |= 1 << string;
            check.due("snap", x.snap(3, string), 8 - string);
            check.due("broken, as a set", x.member(3, 1), broken);
        }
        check.due("all of one harp", x.count(15), 8);
        check.due("another harp", x.member(2, 1), 0);
        check.due("another harp", x.member(4, 1), 0);
        for (int string = 0; string < 8; string++) {
            check.due("broken already", x.snap(3, string), NOT_POSSIBLE);
        }
        check.due("string 8", x.snap(3, 8), NO_SUCH);
        check.due("string -1", x.snap(3, -1), NO_SUCH);
    }

    private static void spareFrom0() {
        check.about("spare strings of each gauge, 0 to 99 (0 at first): not below 0");
        HarpOrders x = Clubs.quick();
        Clubs.stock(x, 0, 0, 2);
        x.snap(0, 0);
        check.due("fit", x.fit(0, 0, 0), 1);
        check.holds("give", x.give(0, 1, 0, 1) > -100000);
        check.due("none is left", x.strings(0, 0, false), 0);
        x.snap(0, 0);
        check.due("fit", x.fit(0, 0, 0), NOT_POSSIBLE);
        check.due("give", x.give(0, 1, 0, 1), NOT_POSSIBLE);
        check.due("standIn", x.standIn(0, 0), HarpOrders.NONE);
        check.due("none is left", x.strings(0, 0, false), 0);
    }

    private static void spareTo99() {
        check.about("spare strings of each gauge, 0 to 99 (0 at first): not above 99");
        HarpOrders x = Clubs.quick();
        Clubs.stock(x, 0, 3, 99);
        check.due("99", x.strings(0, 3, false), 99);
        check.due("none was lost", x.member(0, 8), 0);
        Clubs.stock(x, 0, 4, 99);
        check.due("99 of another gauge", x.strings(0, 4, false), 99);
        check.due("both", x.member(0, 2), 198);
        check.due("none was lost", x.member(0, 8), 0);
        Clubs.stock(x, 0, 3, 1);
        check.due("99", x.strings(0, 3, false), 99);
        check.due("one was lost", x.member(0, 8), 1);
        Clubs.stock(x, 1, 3, 1);
        check.due("give above 99", x.give(1, 0, 3, 1), NOT_POSSIBLE);
    }

    private static void wantsTo20() {
        check.about("wants of each gauge, 0 to 20 (0 at first)");
        HarpOrders x = new HarpOrders();
        check.due("-1", x.want(0, 0, -1), BAD_VALUE);
        check.due("21", x.want(0, 0, 21), BAD_VALUE);
        check.due("20", x.want(0, 0, 20), 160 + 40);
        check.due("20 of another gauge", x.want(0, 1, 20), 160 + 240 + 80);
        check.due("both", x.member(0, 3), 40);
        check.due("0", x.want(0, 1, 0), 160 + 40);
        check.due("0", x.want(0, 0, 0), 0);
        check.due("none", x.member(0, 3), 0);
    }

    private static void accountsBelow0() {
        check.about("an account (0 at first)");
        HarpOrders x = Clubs.quick();
        x.pay(5, 45);
        x.want(0, 7, 1);
        check.due("send", x.send(1), 45);
        check.due("below 0", x.member(0, 0), -45);
        check.due("pay, below 0 still", x.pay(0, 44), -1);
        check.due("pay, 0", x.pay(0, 1), 0);
    }

    private static void chest() {
        check.about("The chest is all accounts together.");
        HarpOrders x = Clubs.quick();
        x.pay(0, 100);
        x.pay(5, 30);
        check.due("two accounts", x.count(10), 130);
        x.want(3, 7, 1);
        x.send(8);
        check.due("one is below 0", x.member(3, 0), -45);
        check.due("together", x.count(10), 85);
        x.pass(1);
        x.give(3, 4, 7, 1);
        check.due("what goes from account to account", x.count(10), 85);
        x.set(Clubs.CHANCE, 100);
        x.set(Clubs.BREAK, 0);
        x.set(Clubs.FREE, 0);
        x.set(Clubs.DUTY, 50);
        x.want(3, 6, 2);
        x.send(8);
        x.pass(1);
        check.due("duty brings it below 0", x.count(10), 85 - 80 - 40);
        x.want(0, 0, 1);
        check.due("the account of a member alone does not do", x.send(1), NOT_POSSIBLE);
    }
}
