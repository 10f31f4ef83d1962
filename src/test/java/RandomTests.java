/** Runs of calls that a counter draws, always the same ones. */
final class RandomTests {
    private static final int RUNS = 300;
    private static final int CALLS = 120;

    private RandomTests() {
    }

    static void run() {
        Check.test("calls with any numbers throw what the document names, and then change nothing", () -> {
            for (int seed = 0; seed < RUNS; seed++) {
                playWild(seed);
            }
        });
        Check.test("the floor stays in order", () -> {
            for (int seed = 0; seed < RUNS; seed++) {
                WaltzHall hall = new WaltzHall();
                Draw draw = new Draw(seed);
                for (int i = 0; i < CALLS; i++) {
                    call(hall, draw, false);
                    inOrder(hall);
                }
            }
        });
        Check.test("looking ahead tells what comes, and changes nothing", () -> {
            for (int seed = 0; seed < RUNS; seed++) {
                looksAhead(seed);
            }
        });
    }

    private static final class Draw {
        private long state;

        Draw(long seed) {
            state = seed * 7919L + 12345L;
        }

        int below(int bound) {
            state = state * 6364136223846793005L + 1442695040888963407L;
            return (int) ((state >>> 33) % bound);
        }

        /** Most often 0 to the bound, else a little beside it, or far away. */
        int near(int bound, boolean wild) {
            int kind = below(wild ? 12 : 40);
            if (wild && kind == 0) {
                return new int[] {Integer.MIN_VALUE, Integer.MAX_VALUE, -1, 1000, -1000}[below(5)];
            }
            return kind == 1 ? bound + 1 : kind == 2 ? -1 : below(bound + 1);
        }
    }

    private static String dance(Draw draw) {
        StringBuilder text = new StringBuilder();
        int length = 1 + draw.below(12);
        for (int i = 0; i < length; i++) {
            text.append("ffffblrrttuswz".charAt(draw.below(draw.below(6) == 0 ? 14 : 13)));
        }
        return text.toString();
    }

    /** One call of those that change something; answers whether it was refused. */
    private static boolean call(WaltzHall hall, Draw draw, boolean wild) {
        try {
            change(hall, draw, wild);
            return false;
        } catch (IllegalStateException | IllegalArgumentException | IndexOutOfBoundsException e) {
            if (!Check.isThrownByTheClass(e) || !isPlain(e)) {
                Check.wrong("the machine or the library threw " + e);
            }
            return true;
        }
    }

    private static boolean isPlain(RuntimeException e) {
        return e.getClass() == IllegalStateException.class || e.getClass() == IllegalArgumentException.class
                || e.getClass() == IndexOutOfBoundsException.class;
    }

    private static void change(WaltzHall hall, Draw draw, boolean wild) {
        switch (draw.below(14)) {
            case 0:
            case 1:
                hall.come(draw.near(5, wild), draw.near(5, wild), draw.near(3, wild), draw.near(9, wild));
                break;
            case 2:
                hall.dance(draw.near(7, wild), draw.near(7, wild));
                break;
            case 3:
            case 4:
            case 5:
                hall.pair(draw.near(7, wild), draw.near(7, wild));
                break;
            case 6:
                hall.part(draw.near(7, wild));
                break;
            case 7:
                hall.wind(draw.near(7, wild), draw.near(200, wild) - draw.below(2) * 100);
                break;
            case 8:
                hall.addWinder(draw.near(15, wild), draw.near(15, wild), draw.near(100, wild));
                break;
            case 9:
                hall.call(draw.near(2, wild), draw.near(7, wild));
                break;
            case 10:
                Halls.tape(hall, dance(draw));
                hall.learn(draw.near(7, wild));
                break;
            case 11:
                hall.trim(draw.near(40, wild));
                break;
            case 12:
                hall.feed(draw.below(1 << 30), draw.near(9, wild), 0, -draw.below(99), 7);
                break;
            default:
                hall.pass(draw.near(12, wild));
                break;
        }
    }

    private static void ask(WaltzHall hall, Draw draw) {
        int a = draw.near(9, true);
        int b = draw.near(12, true);
        int c = draw.near(200, true);
        switch (draw.below(10)) {
            case 0:
                hall.figure(a, b);
                break;
            case 1:
                hall.drift(a, draw.near(3, true));
                break;
            case 2:
                hall.dancer(a, b);
                break;
            case 3:
                hall.at(draw.near(15, true), draw.near(15, true));
                break;
            case 4:
                hall.winder(draw.near(2, true), draw.near(5, true));
                break;
            case 5:
                hall.count(b);
                break;
            case 6:
                hall.foresee(a, c, draw.near(4, true));
                break;
            case 7:
                hall.firstToStop(c);
                break;
            case 8:
                hall.meet(a, b, c);
                break;
            default:
                Check.isTrue("a tension of 0 to 200", hall.tension() >= 0 && hall.tension() <= 200);
                break;
        }
    }

    private static void playWild(int seed) {
        WaltzHall hall = new WaltzHall();
        Draw draw = new Draw(seed);
        for (int i = 0; i < CALLS; i++) {
            long before = hall.digest();
            if (call(hall, draw, true)) {
                Check.same("digest behind a refused call", hall.digest(), before);
            }
            before = hall.digest();
            try {
                ask(hall, draw);
            } catch (IllegalArgumentException | IndexOutOfBoundsException e) {
                Check.isTrue("thrown by the class itself: " + e, Check.isThrownByTheClass(e) && isPlain(e));
            }
            Check.same("digest behind a question", hall.digest(), before);
        }
    }

    private static void inOrder(WaltzHall hall) {
        int dancers = hall.count(1);
        Check.same("digest()", hall.digest(), AheadTests.told(hall));
        for (int i = 0; i < dancers; i++) {
            Check.same("at", hall.at(hall.dancer(i, Halls.X), hall.dancer(i, Halls.Y)), i);
            int spring = hall.dancer(i, Halls.SPRING);
            Check.isTrue("a spring of 0 to 200", spring >= 0 && spring <= 200);
            int dizzy = hall.dancer(i, Halls.DIZZY);
            Check.isTrue("dizzy for 0 to 2", dizzy >= 0 && dizzy <= 2);
            hall.figure(hall.dancer(i, Halls.DANCE), hall.dancer(i, Halls.PLACE));
            int partner = hall.dancer(i, Halls.PARTNER);
            if (partner >= 0) {
                Halls.tells(hall, partner, Halls.PARTNER, i);
                Halls.tells(hall, partner, Halls.FOLLOWS, 1 - hall.dancer(i, Halls.FOLLOWS));
                Check.same("a couple stays beside each other", hall.meet(i, partner, 1), 0);
            }
        }
    }

    private static WaltzHall replay(int seed, boolean looking) {
        WaltzHall hall = new WaltzHall();
        Draw draw = new Draw(seed);
        for (int i = 0; i < CALLS; i++) {
            call(hall, draw, false);
            if (looking) {
                hall.firstToStop(1 + i % 9);
            }
        }
        return hall;
    }

    private static void looksAhead(int seed) {
        // Looks in between must leave nothing behind that the later looks would see.
        WaltzHall hall = replay(seed, true);
        WaltzHall then = replay(seed, false);
        long before = hall.digest();
        Check.same("digest of the same calls", then.digest(), before);
        int dancers = hall.count(1);
        boolean[] spent = new boolean[dancers];
        int[] bumps = new int[dancers];
        for (int i = 0; i < dancers; i++) {
            spent[i] = hall.dancer(i, Halls.SPRING) < hall.dancer(i, Halls.COST);
            bumps[i] = hall.dancer(i, Halls.BUMPS);
        }
        int stops = -1;
        int[] met = new int[dancers];
        for (int beats = 0; beats <= 30; beats++) {
            if (beats > 0) {
                then.pass(1);
                for (int i = dancers - 1, last = stops; i >= 0 && last < 0; i--) {
                    boolean stopped = !spent[i] && then.dancer(i, Halls.SPRING) < then.dancer(i, Halls.COST);
                    stops = stopped ? i : stops;
                }
                Check.same("firstToStop(" + beats + ")", hall.firstToStop(beats), stops);
                foreseesAll(hall, then, beats, bumps);
            }
            for (int i = 1; i < dancers; i++) {
                met[i] = met[i] == 0 && beside(then, i) ? beats + 1 : met[i];
                if (beats > 0) {
                    Check.same("meet(0, " + i + ", " + beats + ")", hall.meet(0, i, beats), met[i] - 1);
                }
            }
        }
        Check.same("digest behind looking ahead", hall.digest(), before);
    }

    private static boolean beside(WaltzHall hall, int other) {
        int dx = hall.dancer(0, Halls.X) - hall.dancer(other, Halls.X);
        int dy = hall.dancer(0, Halls.Y) - hall.dancer(other, Halls.Y);
        return dx * dx + dy * dy == 1;
    }

    private static void foreseesAll(WaltzHall hall, WaltzHall then, int beats, int[] bumps) {
        for (int i = 0; i < bumps.length; i++) {
            for (int what = 0; what < 4; what++) {
                Check.same("foresee(" + i + ", " + beats + ", " + what + ")", hall.foresee(i, beats, what),
                        then.dancer(i, what));
            }
            Check.same("foresee(" + i + ", " + beats + ", 4)", hall.foresee(i, beats, 4),
                    then.dancer(i, Halls.BUMPS) - bumps[i]);
        }
    }
}
