/** The boundary cases in the promises 1 to 6. */
final class EdgeDanceTests {
    private static final int F4 = 0x66666666;

    private EdgeDanceTests() {
    }

    static void run() {
        newHall();
        feed();
        trim();
        learn();
        figure();
        drift();
    }

    private static void newHall() {
        Check.test("promise 1: a new hall is empty, at the beat 0, with an empty tape", () -> {
            WaltzHall hall = new WaltzHall();
            Check.same("count(0)", hall.count(0), 0);
            Check.same("the length of the tape", Edges.tapeLength(hall), 0);
            Edges.index(WaltzHall::new, h -> h.dancer(0, 0), h -> h.winder(0, 0), h -> h.dance(0, 0),
                    h -> h.pair(0, 0), h -> h.part(0), h -> h.wind(0, 0), h -> h.call(0, 0),
                    h -> h.foresee(0, 1, 0), h -> h.meet(0, 0, 1));
        });
    }

    private static WaltzHall withTape(int length) {
        WaltzHall hall = new WaltzHall();
        Edges.fill(hall, "fblrtusw".repeat(5).substring(0, length));
        return hall;
    }

    private static void feed() {
        Check.test("promise 2: the empty tape takes twenty bytes, and twenty more", () -> {
            WaltzHall hall = new WaltzHall();
            Check.same("feed", hall.feed(F4, F4, F4, F4, F4), 20);
            Check.same("feed", hall.feed(F4, F4, F4, F4, F4), 40);
        });
        Check.test("promise 2: with 20 bytes it takes twenty more, with 21 and with 40 none", () -> {
            Check.same("feed behind 0", withTape(0).feed(F4, F4, F4, F4, F4), 20);
            Check.same("feed behind 1", withTape(1).feed(F4, F4, F4, F4, F4), 21);
            Check.same("feed behind 20", withTape(20).feed(F4, F4, F4, F4, F4), 40);
            Edges.state(() -> withTape(21), h -> h.feed(F4, F4, F4, F4, F4));
            Edges.state(() -> withTape(24), h -> h.feed(0, 0, 0, 0, 0));
            Edges.state(() -> withTape(40), h -> h.feed(F4, F4, F4, F4, F4));
        });
        Check.test("promise 2: a refused feed appends no byte of the twenty", () -> {
            WaltzHall hall = withTape(24);
            Check.state(hall, () -> hall.feed(F4, F4, F4, F4, F4));
            Check.same("learn", hall.learn(1), 24);
            Check.isTrue("the tape was as before", Halls.danceOf(hall, 1).equals("fblrtusw".repeat(3)));
        });
        Check.test("promise 2: the highest byte of a number is the first one, the lowest the fourth", () -> {
            WaltzHall hall = new WaltzHall();
            hall.feed('f' << 24 | 'b' << 16 | 'l' << 8 | 'r', 't' << 24 | 'u' << 16 | 's' << 8 | 'w', F4, F4,
                    'w' << 24 | 's' << 16 | 'u' << 8 | 't');
            hall.learn(0);
            Check.isTrue("in order", Halls.danceOf(hall, 0).equals("fblrtusw" + "ffffffff" + "wsut"));
        });
        Check.test("promise 2: the lowest and the greatest number have four bytes each", () -> {
            WaltzHall hall = new WaltzHall();
            Check.same("feed", hall.feed(Integer.MIN_VALUE, Integer.MAX_VALUE, -1, 0, 1), 20);
            Check.same("the length of the tape", Edges.tapeLength(hall), 20);
        });
    }

    private static void trim() {
        Check.test("promise 3: 0 to the number of bytes", () -> {
            Check.same("trim(40)", withTape(40).trim(40), 40);
            Check.same("trim(0)", withTape(40).trim(0), 0);
            Check.same("trim(7)", withTape(7).trim(7), 7);
            Check.same("trim(6)", withTape(7).trim(6), 6);
            Edges.argument(() -> withTape(40), h -> h.trim(41), h -> h.trim(-1));
            Edges.argument(() -> withTape(7), h -> h.trim(8), h -> h.trim(-1), h -> h.trim(40));
        });
        Check.test("promise 3: the empty tape is trimmed to 0 alone", () -> {
            Check.same("trim(0)", new WaltzHall().trim(0), 0);
            Edges.argument(WaltzHall::new, h -> h.trim(1), h -> h.trim(-1), h -> h.trim(Integer.MAX_VALUE),
                    h -> h.trim(Integer.MIN_VALUE));
        });
        Check.test("promise 3: what is trimmed off does not come back", () -> {
            WaltzHall hall = withTape(20);
            hall.trim(4);
            Check.argument(hall, () -> hall.trim(5));
            Check.same("feed", hall.feed(F4, F4, F4, F4, F4), 24);
            Check.same("learn", hall.learn(0), 24);
            Check.isTrue("four of the old ones", Halls.danceOf(hall, 0).equals("fblr" + "f".repeat(20)));
        });
    }

    private static void learns(int length, int due) {
        WaltzHall hall = withTape(length);
        Check.same("learn of " + length, hall.learn(3), due);
        Check.same("the length of the tape", Edges.tapeLength(hall), 0);
        String then = due < 0 ? "w" : "fblrtusw".repeat(3).substring(0, length);
        Check.isTrue("the dance is " + then, Halls.danceOf(hall, 3).equals(then));
    }

    private static void learn() {
        Check.test("promise 4: the dances are 0 to 7", () -> {
            Check.same("learn(0)", withTape(3).learn(0), 3);
            Check.same("learn(7)", withTape(3).learn(7), 3);
            Edges.index(() -> withTape(3), h -> h.learn(-1), h -> h.learn(8), h -> h.learn(Integer.MAX_VALUE),
                    h -> h.learn(Integer.MIN_VALUE));
        });
        Check.test("promise 4: no figure tells -1, one tells 1", () -> {
            learns(0, -1);
            learns(1, 1);
        });
        Check.test("promise 4: 24 figures tell 24, more than 24 tell -1", () -> {
            learns(23, 23);
            learns(24, 24);
            learns(25, -1);
            learns(40, -1);
        });
        Check.test("promise 4: a byte that is no figure, the first or the last one, tells -1", () -> {
            String[] wrong = {"?", "?f", "f?", "F", "w?w", "f".repeat(23) + "?", "?" + "f".repeat(23)};
            for (String text : wrong) {
                WaltzHall hall = new WaltzHall();
                Edges.fill(hall, text);
                Check.same("learn of " + text, hall.learn(2), -1);
                Check.same("the length of the tape", Edges.tapeLength(hall), 0);
                Check.isTrue("the dance stays", Halls.danceOf(hall, 2).equals("sswl"));
            }
        });
        Check.test("promise 4: bytes behind the end of the tape do not count", () -> {
            WaltzHall hall = new WaltzHall();
            Edges.fill(hall, "ff?");
            hall.trim(2);
            Check.same("learn", hall.learn(2), 2);
        });
        Check.test("promise 4: the last place of the new dance goes on, the one behind it is 0 then", () -> {
            for (int place = 0; place < 4; place++) {
                WaltzHall hall = new WaltzHall();
                hall.come(7, 7, 0, 1);
                hall.dance(0, 7);
                if (place > 0) {
                    hall.pass(place);
                }
                Halls.teach(hall, 7, "ttt");
                Halls.tells(hall, 0, Halls.PLACE, place == 3 ? 0 : place);
            }
        });
        Check.test("promise 4: a dance that is not taken leaves the places", () -> {
            WaltzHall hall = new WaltzHall();
            hall.come(7, 7, 0, 1);
            hall.dance(0, 7);
            hall.pass(3);
            Check.same("learn of the empty tape", hall.learn(7), -1);
            Halls.tells(hall, 0, Halls.PLACE, 3);
        });
        Check.test("promise 4: those who dance another dance stay at their place", () -> {
            WaltzHall hall = new WaltzHall();
            hall.come(7, 7, 0, 1);
            hall.pass(3);
            Halls.teach(hall, 1, "w");
            Halls.tells(hall, 0, Halls.PLACE, 3);
        });
    }

    private static void figure() {
        Check.test("promise 5: the first place and the last one, and none beside them", () -> {
            WaltzHall hall = withTape(24);
            hall.learn(0);
            Check.same("figure(0, 0)", hall.figure(0, 0), 'f');
            Check.same("figure(0, 23)", hall.figure(0, 23), 'w');
            Check.same("figure(1, 7)", hall.figure(1, 7), 't');
            Check.same("figure(3, 0)", hall.figure(3, 0), 'w');
            Check.index(hall, () -> hall.figure(0, 24));
            Check.index(hall, () -> hall.figure(0, -1));
            Edges.index(Edges::busy, h -> h.figure(0, -1), h -> h.figure(0, 4), h -> h.figure(1, 8),
                    h -> h.figure(3, 1), h -> h.figure(3, -1));
        });
        Check.test("promise 5: the dances 0 and 7, and none beside them", () -> {
            WaltzHall hall = new WaltzHall();
            Check.same("figure(0, 0)", hall.figure(0, 0), 'f');
            Check.same("figure(7, 0)", hall.figure(7, 0), 't');
            Edges.index(Edges::busy, h -> h.figure(-1, 0), h -> h.figure(8, 0), h -> h.figure(8, 24),
                    h -> h.figure(Integer.MIN_VALUE, 0), h -> h.figure(0, Integer.MAX_VALUE));
        });
    }

    private static void drifts(String text, int x, int y, int face, int rounds) {
        WaltzHall hall = new WaltzHall();
        Edges.fill(hall, text);
        hall.learn(0);
        int[] due = {x, y, face, rounds};
        for (int what = 0; what < 4; what++) {
            Check.same("drift(0, " + what + ") of " + text, hall.drift(0, what), due[what]);
        }
    }

    private static void drift() {
        Check.test("promise 6: what is 0 to 3, a dance 0 to 7", () -> {
            WaltzHall hall = new WaltzHall();
            Check.same("drift(0, 0)", hall.drift(0, 0), 0);
            Check.same("drift(7, 3)", hall.drift(7, 3), 1);
            Edges.index(Edges::busy, h -> h.drift(-1, 0), h -> h.drift(8, 3), h -> h.drift(0, -1),
                    h -> h.drift(7, 4), h -> h.drift(8, 4));
        });
        Check.test("promise 6: the floor has no end, in each direction", () -> {
            drifts("f".repeat(24), 0, -24, 0, -1);
            drifts("b".repeat(24), 0, 24, 0, -1);
            drifts("l".repeat(24), -24, 0, 0, -1);
            drifts("r".repeat(24), 24, 0, 0, -1);
        });
        Check.test("promise 6: one figure", () -> {
            drifts("f", 0, -1, 0, -1);
            drifts("w", 0, 0, 0, 1);
            drifts("s", 0, 0, 0, 1);
            drifts("t", 0, 0, 1, 4);
            drifts("u", 0, 0, 3, 4);
        });
        Check.test("promise 6: back at the beginning with another face is not yet the beginning", () -> {
            drifts("tt", 0, 0, 2, 2);
            drifts("fbt", 0, 0, 1, 4);
            drifts("fbu", 0, 0, 3, 4);
        });
        Check.test("promise 6: never, if the face is 0 and the place is another", () -> {
            drifts("ftftftftf", 0, -1, 0, -1);
            drifts("tfu", 1, 0, 0, -1);
        });
        Check.test("promise 6: another face always comes back, from far away, too", () -> {
            drifts("f".repeat(22) + "tt", 0, -22, 2, 2);
            drifts("f".repeat(23) + "t", 0, -23, 1, 4);
            drifts("r".repeat(23) + "u", 23, 0, 3, 4);
        });
        Check.test("promise 6: a dancer of the dance does not count", () -> {
            WaltzHall hall = new WaltzHall();
            hall.come(0, 0, 3, 9);
            hall.dance(0, 2);
            hall.pass(3);
            Check.same("drift(2, 0)", hall.drift(2, 0), -1);
            Check.same("drift(2, 2)", hall.drift(2, 2), 0);
        });
    }
}
