/** Clubs that the tests begin with. */
final class Clubs {
    static final int TIER = 0, BASE = 1, HEAVY = 2, TRAVEL = 3, WAIT = 4, FREE = 5, DUTY = 6, CHANCE = 7, BREAK = 8;

    private Clubs() {
    }

    /** A club whose parcels cost no post, and are home on the next day, unopened. */
    static HarpOrders quick() {
        HarpOrders x = new HarpOrders();
        x.set(BASE, 0);
        x.set(HEAVY, 0);
        x.set(TRAVEL, 1);
        x.set(CHANCE, 0);
        return x;
    }

    /** Gives a member of a quick club, who wants nothing, so many more spare strings. */
    static void stock(HarpOrders x, int member, int gauge, int many) {
        for (int left = many; left > 0; left -= 20) {
            x.want(member, gauge, Math.min(left, 20));
            x.pay(member, 1000);
            x.send(1 << member);
            x.pass(1);
        }
    }

    /** A club with pence enough, whose parcels come to the customs tomorrow, where each is opened. */
    static HarpOrders strict() {
        HarpOrders x = new HarpOrders();
        x.set(BASE, 0);
        x.set(HEAVY, 0);
        x.set(TRAVEL, 1);
        x.set(CHANCE, 100);
        x.set(BREAK, 0);
        x.set(FREE, 0);
        for (int i = 0; i < 3; i++) {
            x.pay(0, 1000);
        }
        return x;
    }

    /** Sends one string of gauge 0 for a member. */
    static int sendOne(HarpOrders x, int member) {
        x.want(member, 0, 1);
        return x.send(1 << member);
    }

    /** A club with five parcels on their way, and pence for more. */
    static HarpOrders full() {
        HarpOrders x = new HarpOrders();
        x.pay(0, 1000);
        for (int i = 0; i < 5; i++) {
            sendOne(x, 0);
        }
        return x;
    }

    /** Lets the days pass up to the day 9999. */
    static void toLastDay(HarpOrders x) {
        for (int day = x.count(9); day < 9999; day += 60) {
            x.pass(Math.min(60, 9999 - day));
        }
    }
}
