/** Promises 2 to 6. */
final class DanceTests {
    private static final int F4 = 0x66666666;

    private DanceTests() {
    }

    static void run() {
        feed();
        trim();
        learn();
        figure();
        drift();
    }

    private static void feed() {
        Check.test("promise 2: twenty bytes at a time, up to 40", () -> {
            WaltzHall hall = new WaltzHall();
            Check.same("feed", hall.feed(1, 2, 3, 4, 5), 20);
            Check.same("feed", hall.feed(1, 2, 3, 4, 5), 40);
            Check.state(hall, () -> hall.feed(1, 2, 3, 4, 5));
            Check.same("trim(40) behind a refused feed", hall.trim(40), 40);
        });
        Check.test("promise 2: the last length that takes twenty more is 20", () -> {
            WaltzHall hall = new WaltzHall();
            hall.feed(F4, F4, F4, F4, F4);
            hall.feed(F4, F4, F4, F4, F4);
            hall.trim(21);
            Check.state(hall, () -> hall.feed(F4, F4, F4, F4, F4));
            hall.trim(20);
            Check.same("feed", hall.feed(F4, F4, F4, F4, F4), 40);
        });
        Check.test("promise 2: the highest byte first, the numbers in their order, behind what is there", () -> {
            WaltzHall hall = new WaltzHall();
            // fblr tusw ffbb llrr ttuu, and behind 3 of it the same again
            int[] n = {0x66626c72, 0x74757377, 0x66666262, 0x6c6c7272, 0x74747575};
            hall.feed(n[0], n[1], n[2], n[3], n[4]);
            hall.trim(3);
            Check.same("feed", hall.feed(n[0], n[1], n[2], n[3], n[4]), 23);
            Check.same("learn", hall.learn(2), 23);
            Check.isTrue("all bytes in order", Halls.danceOf(hall, 2).equals("fbl" + "fblrtuswffbbllrrttuu"));
        });
        Check.test("promise 2: numbers less than 0 are bytes, too", () -> {
            WaltzHall hall = new WaltzHall();
            Check.same("feed", hall.feed(-1, Integer.MIN_VALUE, -2, Integer.MAX_VALUE, 0), 20);
            Check.same("learn", hall.learn(0), -1);
        });
    }

    private static void trim() {
        Check.test("promise 3: the first bytes are kept", () -> {
            WaltzHall hall = new WaltzHall();
            Halls.tape(hall, "fblrtusw");
            Check.same("trim(8)", hall.trim(8), 8);
            Check.same("trim(5)", hall.trim(5), 5);
            Check.argument(hall, () -> hall.trim(6));
            Check.same("learn", hall.learn(1), 5);
            Check.isTrue("the first five", Halls.danceOf(hall, 1).equals("fblrt"));
        });
        Check.test("promise 3: 0 to the length of the tape", () -> {
            WaltzHall hall = new WaltzHall();
            Halls.tape(hall, "ffff");
            Check.argument(hall, () -> hall.trim(-1));
            Check.argument(hall, () -> hall.trim(5));
            Check.argument(hall, () -> hall.trim(Integer.MAX_VALUE));
            Check.argument(hall, () -> hall.trim(Integer.MIN_VALUE));
            Check.same("trim(4) behind refused ones", hall.trim(4), 4);
            Check.same("trim(0)", hall.trim(0), 0);
            Check.argument(hall, () -> hall.trim(1));
        });
    }

    private static void learn() {
        Check.test("promise 4: the tape becomes the dance, and is empty", () -> {
            WaltzHall hall = new WaltzHall();
            Check.same("learn", Halls.teach(hall, 1, "fblrtusw"), 8);
            Check.isTrue("all figures", Halls.danceOf(hall, 1).equals("fblrtusw"));
            Check.isTrue("another dance stays", Halls.danceOf(hall, 0).equals("frbl"));
            Check.argument(hall, () -> hall.trim(1));
            Check.same("learn of the empty tape", hall.learn(1), -1);
            Check.isTrue("the dance stays", Halls.danceOf(hall, 1).equals("fblrtusw"));
        });
        Check.test("promise 4: 1 to 24 figures", () -> {
            WaltzHall hall = new WaltzHall();
            Check.same("learn of 1", Halls.teach(hall, 7, "s"), 1);
            hall.feed(F4, F4, F4, F4, F4);
            hall.feed(F4, F4, F4, F4, F4);
            hall.trim(24);
            Check.same("learn of 24", hall.learn(6), 24);
            Check.same("figure(6, 23)", hall.figure(6, 23), 'f');
            Check.index(hall, () -> hall.figure(6, 24));
            hall.feed(F4, F4, F4, F4, F4);
            hall.feed(F4, F4, F4, F4, F4);
            hall.trim(25);
            Check.same("learn of 25", hall.learn(5), -1);
            Check.isTrue("the dance stays", Halls.danceOf(hall, 5).equals("rrlluu"));
            Check.argument(hall, () -> hall.trim(1));
            hall.feed(F4, F4, F4, F4, F4);
            hall.feed(F4, F4, F4, F4, F4);
            Check.same("learn of 40", hall.learn(5), -1);
            Check.argument(hall, () -> hall.trim(1));
        });
        Check.test("promise 4: a byte that is no figure", () -> {
            for (int sign = 0; sign < 256; sign++) {
                WaltzHall hall = new WaltzHall();
                boolean isFigure = "fblrtusw".indexOf((char) sign) >= 0;
                hall.feed(0x66000000 | sign << 16 | 0x7700, 0, 0, 0, 0);
                hall.trim(3);
                Check.same("learn with the byte " + sign, hall.learn(2), isFigure ? 3 : -1);
                Check.same("figure(2, 1)", hall.figure(2, 1), isFigure ? sign : 's');
                Check.argument(hall, () -> hall.trim(1));
            }
        });
        Check.test("promise 4: no figure at the last byte, at the first one", () -> {
            WaltzHall hall = new WaltzHall();
            Check.same("learn", Halls.teach(hall, 0, "ff?"), -1);
            Check.same("learn", Halls.teach(hall, 0, "?ff"), -1);
            Check.isTrue("the dance stays", Halls.danceOf(hall, 0).equals("frbl"));
        });
        Check.test("promise 4: no such dance, and the tape stays", () -> {
            WaltzHall hall = new WaltzHall();
            Halls.tape(hall, "ffff");
            Check.index(hall, () -> hall.learn(8));
            Check.index(hall, () -> hall.learn(-1));
            Check.index(hall, () -> hall.learn(Integer.MAX_VALUE));
            Check.same("trim(4)", hall.trim(4), 4);
            Check.same("learn", hall.learn(7), 4);
        });
        Check.test("promise 4: dancers go on at their place, or at 0", () -> {
            WaltzHall hall = new WaltzHall();
            hall.come(5, 5, 0, 1);
            hall.come(9, 9, 0, 1);
            hall.dance(1, 7);
            hall.pass(3);
            Halls.tells(hall, 0, Halls.PLACE, 3);
            Halls.teach(hall, 0, "wwww");
            Halls.tells(hall, 0, Halls.PLACE, 3);
            Halls.teach(hall, 0, "ww?");
            Halls.tells(hall, 0, Halls.PLACE, 3);
            Halls.teach(hall, 0, "www");
            Halls.tells(hall, 0, Halls.PLACE, 0);
            Halls.tells(hall, 1, Halls.PLACE, 3);
        });
        Check.test("promise 4: the place of one who follows comes back, too", () -> {
            WaltzHall hall = new WaltzHall();
            hall.come(5, 5, 0, 1);
            hall.come(6, 5, 0, 1);
            hall.dance(0, 7);
            hall.dance(1, 7);
            hall.pass(2);
            hall.pair(0, 1);
            hall.pass(1);
            Halls.tells(hall, 0, Halls.PLACE, 3);
            Halls.tells(hall, 1, Halls.PLACE, 2);
            Halls.teach(hall, 7, "tt");
            Halls.tells(hall, 0, Halls.PLACE, 0);
            Halls.tells(hall, 1, Halls.PLACE, 0);
        });
    }

    private static void figure() {
        Check.test("promise 5: the byte at the place", () -> {
            WaltzHall hall = new WaltzHall();
            Check.same("figure(0, 0)", hall.figure(0, 0), 102);
            Check.same("figure(0, 3)", hall.figure(0, 3), 108);
            Check.same("figure(3, 0)", hall.figure(3, 0), 119);
            Check.same("figure(7, 3)", hall.figure(7, 3), 117);
        });
        Check.test("promise 5: no such dance or place", () -> {
            WaltzHall hall = new WaltzHall();
            Check.index(hall, () -> hall.figure(8, 0));
            Check.index(hall, () -> hall.figure(-1, 0));
            Check.index(hall, () -> hall.figure(0, 4));
            Check.index(hall, () -> hall.figure(0, -1));
            Check.index(hall, () -> hall.figure(3, 1));
            Check.index(hall, () -> hall.figure(0, 24));
            Check.index(hall, () -> hall.figure(0, Integer.MAX_VALUE));
            Check.index(hall, () -> hall.figure(Integer.MIN_VALUE, Integer.MIN_VALUE));
        });
        Check.test("promise 5: figures of a longer dance before are none", () -> {
            WaltzHall hall = new WaltzHall();
            Halls.teach(hall, 1, "ww");
            Check.index(hall, () -> hall.figure(1, 2));
        });
    }

    private static void drifts(String text, int x, int y, int face, int rounds) {
        Check.test("promise 6: drift of " + text, () -> {
            WaltzHall hall = new WaltzHall();
            Halls.teach(hall, 5, text);
            Check.same("drift(5, 0) of " + text, hall.drift(5, 0), x);
            Check.same("drift(5, 1) of " + text, hall.drift(5, 1), y);
            Check.same("drift(5, 2) of " + text, hall.drift(5, 2), face);
            Check.same("drift(5, 3) of " + text, hall.drift(5, 3), rounds);
        });
    }

    private static void drift() {
        drifts("frbl", 0, 0, 0, 1);
        drifts("w", 0, 0, 0, 1);
        drifts("s", 0, 0, 0, 1);
        drifts("f", 0, -1, 0, -1);
        drifts("b", 0, 1, 0, -1);
        drifts("l", -1, 0, 0, -1);
        drifts("r", 1, 0, 0, -1);
        drifts("t", 0, 0, 1, 4);
        drifts("u", 0, 0, 3, 4);
        drifts("tt", 0, 0, 2, 2);
        drifts("uu", 0, 0, 2, 2);
        drifts("tu", 0, 0, 0, 1);
        drifts("tf", 1, 0, 1, 4);
        drifts("uf", -1, 0, 3, 4);
        drifts("ttf", 0, 1, 2, 2);
        drifts("tl", 0, -1, 1, 4);
        drifts("tr", 0, 1, 1, 4);
        drifts("tb", -1, 0, 1, 4);
        drifts("ul", 0, 1, 3, 4);
        drifts("ftfu", 1, -1, 0, -1);
        drifts("ffffrrrrrttff", 5, -2, 2, 2);
        drifts("ftftftft", 0, 0, 0, 1);
        drifts("bbbbbbbbbbbbbbbbbbbb", 0, 20, 0, -1);
        Check.test("promise 6: drift of the first dances", () -> {
            WaltzHall hall = new WaltzHall();
            int[] faces = {0, 0, 0, 0, 1, 2, 0, 0};
            int[] columns = {0, 0, -1, 0, 0, 0, 0, 0};
            int[] rounds = {1, 1, -1, 1, 4, 2, 1, 1};
            for (int dance = 0; dance < 8; dance++) {
                Check.same("drift 0 of " + dance, hall.drift(dance, 0), columns[dance]);
                Check.same("drift 1 of " + dance, hall.drift(dance, 1), 0);
                Check.same("drift 2 of " + dance, hall.drift(dance, 2), faces[dance]);
                Check.same("drift 3 of " + dance, hall.drift(dance, 3), rounds[dance]);
            }
        });
        Check.test("promise 6: no such dance or kind", () -> {
            WaltzHall hall = new WaltzHall();
            Check.index(hall, () -> hall.drift(8, 0));
            Check.index(hall, () -> hall.drift(-1, 0));
            Check.index(hall, () -> hall.drift(0, 4));
            Check.index(hall, () -> hall.drift(0, -1));
            Check.index(hall, () -> hall.drift(Integer.MAX_VALUE, Integer.MIN_VALUE));
        });
    }
}
