import java.util.function.Supplier;

/** Runs of calls that a counter draws, always the same ones; each answer is compared with the model's. */
final class RandomTests {
    private static final int RUNS = 400;
    private static final int MOST_CALLS = 512;
    private static final int FIRST_CALLS = 120;

    private final WaltzHall hall = new WaltzHall();
    private final Model model = new Model();
    private final boolean wild;
    private long state;
    private int calls;
    private int refused;

    private RandomTests(long seed, boolean wild) {
        state = seed * 7919L + 12345L;
        this.wild = wild;
    }

    static void run() {
        Check.test("drawn calls answer as the model does", () -> {
            for (int seed = 0; seed < RUNS; seed++) {
                new RandomTests(seed, false).play();
            }
        });
        Check.test("drawn calls with any numbers answer as the model does", () -> {
            for (int seed = 0; seed < RUNS; seed++) {
                RandomTests run = new RandomTests(-1 - seed, true);
                run.play();
                Check.isTrue("some calls are refused", run.refused > 0);
            }
        });
        Check.test("what is told of times to come is what passing them brings", () -> {
            for (int seed = 0; seed < RUNS; seed++) {
                looksAhead(seed, 1 + seed % 40);
            }
        });
    }

    private int below(int bound) {
        state = state * 6364136223846793005L + 1442695040888963407L;
        return (int) ((state >>> 33) % bound);
    }

    /** Most often first to last, else a little beside them, or far away. */
    private int near(int first, int last) {
        int kind = below(wild ? 12 : 40);
        if (wild && kind == 0) {
            return new int[] {Integer.MIN_VALUE, Integer.MAX_VALUE, -1, 1000, -1000}[below(5)];
        }
        return kind == 1 ? last + 1 : kind == 2 ? first - 1 : first + below(last - first + 1);
    }

    private int someDancer() {
        return near(0, Math.max(0, model.count(1) - 1));
    }

    private void play() {
        while (calls < MOST_CALLS - 20) {
            if (calls < FIRST_CALLS || below(3) == 0) {
                change();
            } else {
                ask();
            }
            long due = model.digest();
            same("digest()", hall::digest, () -> due);
        }
    }

    /** An answer or the name of an exception that the class itself threw. */
    private static Object outcome(Supplier<Object> call) {
        try {
            return call.get();
        } catch (RuntimeException e) {
            return e.getClass().getName();
        }
    }

    private void same(String call, Supplier<Object> ofHall, Supplier<Object> ofModel) {
        calls++;
        Object due = outcome(ofModel);
        Object got = outcome(() -> {
            try {
                return ofHall.get();
            } catch (RuntimeException e) {
                Check.isTrue(e + " is thrown by the class itself", Check.isThrownByTheClass(e));
                refused++;
                throw e;
            }
        });
        if (!got.equals(due)) {
            Check.wrong("call " + calls + ", " + call + ", answered " + got + ", due is " + due);
        }
    }

    private void change() {
        int a = someDancer();
        int b = someDancer();
        int dance = near(0, 7);
        int x = near(0, below(3) == 0 ? 15 : 5);
        int y = near(below(3) == 0 ? 0 : 10, 15);
        int small = near(0, 3);
        switch (below(13)) {
            case 0:
            case 1:
                int cost = near(1, 9);
                same("come", () -> hall.come(x, y, small, cost), () -> model.come(x, y, small, cost));
                break;
            case 2:
                same("dance", () -> hall.dance(a, dance), () -> model.dance(a, dance));
                break;
            case 3:
            case 4:
                same("pair", () -> hall.pair(a, b), () -> model.pair(a, b));
                break;
            case 5:
                same("part", () -> hall.part(a), () -> model.part(a));
                break;
            case 6:
            case 7:
                int by = near(-200, 200);
                same("wind", () -> hall.wind(a, by), () -> model.wind(a, by));
                break;
            case 8:
                int strength = near(1, 100);
                same("addWinder", () -> hall.addWinder(x, y, strength), () -> model.addWinder(x, y, strength));
                break;
            case 9:
                same("call", () -> hall.call(small, a), () -> model.call(small, a));
                break;
            case 10:
                fill(dance);
                break;
            default:
                int beats = near(1, below(9) == 0 ? 200 : 12);
                same("pass", () -> hall.pass(beats), () -> model.pass(beats));
                break;
        }
    }

    /** Feeds and trims the tape, and takes it as a dance, or not yet. */
    private void fill(int dance) {
        int[] n = new int[5];
        for (int i = 0; i < 20; i++) {
            int sign = "ffffbblrrttuusw".charAt(below(15)) + (below(150) == 0 ? 1 : 0);
            n[i / 4] = n[i / 4] << 8 | sign;
        }
        same("feed", () -> hall.feed(n[0], n[1], n[2], n[3], n[4]), () -> model.feed(n));
        int length = near(0, below(2) == 0 ? 20 : 26);
        same("trim", () -> hall.trim(length), () -> model.trim(length));
        if (below(4) > 0) {
            same("learn", () -> hall.learn(dance), () -> model.learn(dance));
        }
    }

    private void ask() {
        int a = someDancer();
        int b = someDancer();
        int beats = near(1, 200);
        int small = near(0, 4);
        int dance = near(0, 7);
        int many = near(0, 11);
        switch (below(10)) {
            case 0:
                same("figure", () -> hall.figure(dance, many), () -> model.figure(dance, many));
                break;
            case 1:
                same("drift", () -> hall.drift(dance, small), () -> model.drift(dance, small));
                break;
            case 2:
                same("dancer", () -> hall.dancer(a, many), () -> model.dancer(a, many));
                break;
            case 3:
                int x = near(0, 15);
                same("at", () -> hall.at(x, many), () -> model.at(x, many));
                break;
            case 4:
                same("winder", () -> hall.winder(small, many), () -> model.winder(small, many));
                break;
            case 5:
                same("count", () -> hall.count(many), () -> model.count(many));
                break;
            case 6:
                same("foresee", () -> hall.foresee(a, beats, small), () -> model.foresee(a, beats, small));
                break;
            case 7:
                same("firstToStop", () -> hall.firstToStop(beats), () -> model.firstToStop(beats));
                break;
            case 8:
                same("meet", () -> hall.meet(a, b, beats), () -> model.meet(a, b, beats));
                break;
            default:
                same("tension", hall::tension, model::tension);
                break;
        }
    }

    private static WaltzHall busy(int seed) {
        RandomTests run = new RandomTests(seed, false);
        for (int i = 0; i < 200 && run.calls < 200; i++) {
            run.change();
        }
        return run.hall;
    }

    private static void looksAhead(int seed, int beats) {
        WaltzHall hall = busy(seed);
        WaltzHall then = busy(seed);
        long before = hall.digest();
        Check.same("digest of the same calls", then.digest(), before);
        int[] bumps = new int[then.count(1)];
        for (int i = 0; i < bumps.length; i++) {
            bumps[i] = then.dancer(i, Halls.BUMPS);
        }
        then.pass(beats);
        for (int i = 0; i < bumps.length; i++) {
            for (int what = 0; what < 4; what++) {
                Check.same("foresee(" + i + ", " + beats + ", " + what + ")", hall.foresee(i, beats, what),
                        then.dancer(i, what));
            }
            Check.same("foresee(" + i + ", " + beats + ", 4)", hall.foresee(i, beats, 4),
                    then.dancer(i, Halls.BUMPS) - bumps[i]);
        }
        Check.same("digest behind looking ahead", hall.digest(), before);
    }
}
