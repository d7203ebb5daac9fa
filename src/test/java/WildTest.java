import java.util.Random;

/** Wild arguments: no call throws or fails to end, and a call that answers an error changes nothing. */
public final class WildTest {
    private static final int[] VALUES = {Integer.MIN_VALUE, Integer.MIN_VALUE + 1, -65536, -100001, -64, -33, -32, -8,
        -2, -1, 0, 1, 2, 3, 4, 5, 6, 7, 8, 9, 15, 18, 19, 20, 21, 31, 32, 33, 50, 60, 61, 63, 64, 99, 100, 500, 1000,
        1001, 9999, 65536, Integer.MAX_VALUE - 1, Integer.MAX_VALUE};
    private static final int KINDS = 26;
    private static final Check check = new Check();

    public static void main(String[] args) {
        errorsChangeNothing();
        fartherThanPromised();
        check.end();
    }

    private static int wild(Random random) {
        return VALUES[random.nextInt(VALUES.length)];
    }

    private static int call(HarpOrders x, int kind, Random random) {
        int a = wild(random);
        int b = wild(random);
        int c = wild(random);
        switch (kind) {
            case 0: return x.set(a, b);
            case 1: return x.snap(a, b);
            case 2: return x.fit(a, b, c);
            case 3: return x.want(a, b, c);
            case 4: return x.read();
            case 5: return x.pay(a, b);
            case 6: return x.give(a, b, c, wild(random));
            case 7: return x.send(a);
            case 8: return x.pass(a);
            case 9: return x.shuffle(a);
            case 10: return x.member(a, b);
            case 11: return x.strings(a, b, random.nextBoolean());
            case 12: return x.parcel(a, b);
            case 13: return x.count(a);
            case 14: return x.order(a, b);
            case 15: return x.share(a, b);
            case 16: return x.ifMore(a, b, c);
            case 17: return x.bestParting(a);
            case 18: return x.standIn(a, b);
            case 19: return x.untilHome();
            case 20: return x.put((long) a << 32 | b & 0xffffffffL);
            case 21: return x.wipe();
            case 22: return x.fault();
            case 23: return x.undo();
            case 24: return x.save(a);
            default: return x.restore(a);
        }
    }

    private static boolean changesNothing(int kind, int answer) {
        boolean isError = answer <= -100001 && answer >= -100005;
        return isError || kind >= 10 && kind <= 19 || kind == 22 || kind == 24;
    }

    private static void errorsChangeNothing() {
        for (int seed = 0; seed < 30; seed++) {
            Random random = new Random(seed);
            HarpOrders x = new HarpOrders();
            Check.put(x, seed % 2 == 0 ? "a0:1,1:20;f7:2" : "a0:1,1:20;f7:");
            for (int i = 0; i < 512; i++) {
                int kind = random.nextInt(KINDS);
                String before = Check.look(x);
                int answer = call(x, kind, random);
                check.about("seed " + seed + ", call " + i + " of kind " + kind);
                if (changesNothing(kind, answer)) {
                    check.holds("nothing is changed by " + answer, before.equals(Check.look(x)));
                }
            }
        }
    }

    private static void fartherThanPromised() {
        check.about("farther than 512 calls");
        HarpOrders x = new HarpOrders();
        Random random = new Random(7);
        int calls = 0;
        for (; calls < 300000; calls++) {
            call(x, random.nextInt(KINDS), random);
        }
        check.due("calls", calls, 300000);
    }
}
