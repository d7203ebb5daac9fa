import java.util.Random;

/** Long runs of calls, with ordinary and with wild arguments, each answered as the model answers. */
public final class ModelTest {
    private static final int RUNS = 60;
    private static final int CALLS = 512;
    private static final int[] WILD = {Integer.MIN_VALUE, -100006, -64, -1, 64, 99, 100, 256, 1001, 2147483646,
        Integer.MAX_VALUE};
    private static final Check check = new Check();

    private final Random random;
    private final HarpOrders club = new HarpOrders();
    private final Model model = new Model();
    // How often, of a hundred, an argument is wild.
    private final int wildness;
    // Whether many strings of few gauges are wanted, so that members come to 99 of them.
    private final boolean isRich;

    private ModelTest(int seed) {
        random = new Random(seed);
        wildness = seed % 4 == 0 ? 8 : 1;
        isRich = seed % 3 == 1;
    }

    public static void main(String[] args) {
        int runs = args.length > 0 ? Integer.parseInt(args[0]) : RUNS;
        for (int seed = 0; seed < runs; seed++) {
            new ModelTest(seed).play(seed);
        }
        check.end();
    }

    private void play(int seed) {
        for (int i = 0; i < CALLS; i++) {
            check.about("run " + seed + ", call " + i);
            one(random.nextInt(100));
            if (i % 8 == 7) {
                compareAll();
            }
        }
        compareAll();
    }

    private int in(int from, int to) {
        if (random.nextInt(100) < wildness) {
            return random.nextBoolean() ? WILD[random.nextInt(WILD.length)] : random.nextBoolean() ? from - 1 : to + 1;
        }
        return from + random.nextInt(to - from + 1);
    }

    private void due(String call, long got, long want) {
        check.due(call, got, want);
    }

    private void one(int which) {
        int member = in(0, 5);
        int gauge = isRich ? in(0, 1) : in(0, 7);
        if (which < 12) {
            int many = isRich ? in(15, 20) : in(0, random.nextInt(4) == 0 ? 20 : 3);
            due("want", club.want(member, gauge, many), model.want(member, gauge, many));
        } else if (which < 20) {
            int pence = isRich ? in(900, 1000) : in(1, 1000);
            due("pay", club.pay(member, pence), model.pay(member, pence));
        } else if (which < 32) {
            int members = random.nextInt(3) == 0 ? 63 : in(1, 63);
            due("send", club.send(members), model.send(members));
        } else if (which < 44) {
            int days = in(1, random.nextInt(20) == 0 ? 60 : 6);
            due("pass", club.pass(days), model.pass(days));
        } else if (which < 52) {
            due("snap", club.snap(member, gauge), model.snap(member, gauge));
        } else if (which < 58) {
            int string = random.nextBoolean() ? Math.max(0, Math.min(gauge + random.nextInt(3) - 1, 7)) : in(0, 7);
            due("fit", club.fit(member, string, gauge), model.fit(member, string, gauge));
        } else if (which < 64) {
            int other = in(0, 5);
            int many = in(1, random.nextInt(4) == 0 ? 20 : 3);
            due("give", club.give(member, other, gauge, many), model.give(member, other, gauge, many));
        } else if (which < 80) {
            text(random.nextInt(10));
        } else if (which < 86) {
            setting(in(0, 8));
        } else {
            state(which);
        }
    }

    private void setting(int setting) {
        int[] most = {20, 99, 9, 20, 30, 500, 50, 100, 100};
        int bound = setting < 0 || setting > 8 ? 100 : most[setting];
        int value = random.nextInt(4) == 0 ? in(bound, bound) : in(0, bound);
        due("set", club.set(setting, value), model.set(setting, value));
    }

    private void state(int which) {
        int slot = in(0, 1);
        if (which < 92) {
            due("undo", club.undo(), model.undo());
        } else if (which < 95) {
            due("save", club.save(slot), model.save(slot));
        } else if (which < 97) {
            due("restore", club.restore(slot), model.restore(slot));
        } else {
            int number = random.nextBoolean() ? random.nextInt() : in(0, 2147483646);
            due("shuffle", club.shuffle(number), model.shuffle(number));
        }
    }

    private void text(int which) {
        if (which < 6) {
            String text = random.nextInt(4) == 0 ? wildText() : wants();
            for (int i = 0; i < text.length(); i += 8) {
                long packed = Check.packed(text.substring(i, Math.min(i + 8, text.length())));
                due("put", club.put(packed), model.put(packed));
            }
        } else if (which < 7) {
            long packed = random.nextLong() >>> random.nextInt(64);
            due("put", club.put(packed), model.put(packed));
        } else if (which < 9) {
            due("read", club.read(), model.read());
        } else {
            due("wipe", club.wipe(), model.wipe());
        }
    }

    private String wants() {
        StringBuilder text = new StringBuilder();
        if (club.count(17) > 0) {
            text.append(random.nextInt(6) == 0 ? ',' : ';');
        }
        text.append((char) ('a' + random.nextInt(6)));
        do {
            text.append(random.nextInt(8)).append(':').append(1 + random.nextInt(random.nextInt(3) == 0 ? 20 : 3)).append(',');
        } while (random.nextInt(3) == 0);
        text.setLength(text.length() - 1);
        return text.toString();
    }

    private String wildText() {
        String signs = "abfg01279::,,;;A!~";
        StringBuilder text = new StringBuilder();
        for (int i = random.nextInt(5); i >= 0; i--) {
            text.append(signs.charAt(random.nextInt(signs.length())));
        }
        return text.toString();
    }

    private void compareAll() {
        for (int what = -1; what <= 19; what++) {
            due("count " + what, club.count(what), model.count(what));
        }
        for (int member = 0; member < 6; member++) {
            compareMember(member);
        }
        for (int parcel = -1; parcel <= 5; parcel++) {
            for (int what = -1; what <= 5; what++) {
                due("parcel " + what, club.parcel(parcel, what), model.parcel(parcel, what));
            }
        }
        for (int i = 0; i < 4; i++) {
            compareWhatIf(in(0, 63), in(0, 5), in(0, 7));
        }
        due("bestParting 0", club.bestParting(0), model.bestParting(0));
        due("bestParting 1", club.bestParting(1), model.bestParting(1));
        due("untilHome", club.untilHome(), model.untilHome());
        due("fault", club.fault(), model.fault());
    }

    private void compareMember(int member) {
        for (int what = -1; what <= 9; what++) {
            due("member " + what, club.member(member, what), model.member(member, what));
        }
        for (int gauge = -1; gauge <= 8; gauge++) {
            due("wanted", club.strings(member, gauge, true), model.strings(member, gauge, true));
            due("spare", club.strings(member, gauge, false), model.strings(member, gauge, false));
            due("standIn", club.standIn(member, gauge), model.standIn(member, gauge));
        }
    }

    private void compareWhatIf(int members, int member, int gauge) {
        int what = in(0, 4);
        int many = in(1, 20);
        due("order", club.order(members, what), model.order(members, what));
        due("share", club.share(members, member), model.share(members, member));
        due("ifMore", club.ifMore(member, gauge, many), model.ifMore(member, gauge, many));
        due("member", club.member(member, what), model.member(member, what));
        due("strings", club.strings(member, gauge, true), model.strings(member, gauge, true));
        due("standIn", club.standIn(member, gauge), model.standIn(member, gauge));
        due("bestParting", club.bestParting(what), model.bestParting(what));
    }
}
