/** The boundary cases in the promises 19 to 23. */
final class EdgeAheadTests {
    private EdgeAheadTests() {
    }

    static void run() {
        foresee();
        firstToStop();
        stopsNever();
        meet();
        tension();
        digest();
    }

    private static void foresee() {
        Check.test("promise 19: beats are 1 to 200", () -> {
            WaltzHall hall = Halls.solo(7, 7, 0, 1, "fb");
            hall.wind(0, 100);
            Check.same("foresee(0, 1, 1)", hall.foresee(0, 1, 1), 6);
            Check.same("foresee(0, 1, 3)", hall.foresee(0, 1, 3), 199);
            Check.same("foresee(0, 199, 3)", hall.foresee(0, 199, 3), 1);
            Check.same("foresee(0, 200, 3)", hall.foresee(0, 200, 3), 0);
            Edges.argument(Edges::busy, h -> h.foresee(0, 0, 0), h -> h.foresee(0, 201, 0),
                    h -> h.foresee(4, -1, 4), h -> h.foresee(4, Integer.MAX_VALUE, 4));
        });
        Check.test("promise 19: what is 0 to 4", () -> {
            WaltzHall hall = Halls.solo(3, 0, 0, 1, "f");
            Check.same("foresee(0, 1, 0)", hall.foresee(0, 1, 0), 3);
            Check.same("foresee(0, 1, 4)", hall.foresee(0, 1, 4), 1);
            Edges.index(Edges::busy, h -> h.foresee(0, 1, -1), h -> h.foresee(0, 1, 5));
        });
        Check.test("promise 19: the first dancer and the last one, and none beside them", () -> {
            WaltzHall hall = Edges.crowd();
            Check.same("foresee(0, 1, 0)", hall.foresee(0, 1, 0), 0);
            Check.same("foresee(7, 1, 0)", hall.foresee(7, 1, 0), 14);
            Edges.index(Edges::crowd, h -> h.foresee(-1, 1, 0), h -> h.foresee(8, 1, 0));
            Edges.index(Edges::busy, h -> h.foresee(5, 1, 0));
        });
        Check.test("promise 19: no such dancer or kind is told before wrong beats", () -> {
            Edges.index(Edges::busy, h -> h.foresee(5, 0, 0), h -> h.foresee(-1, 201, 0), h -> h.foresee(0, 0, 5),
                    h -> h.foresee(0, 201, -1));
        });
        Check.test("promise 19: bumps before these beats do not count, those of the last of them do", () -> {
            WaltzHall hall = Halls.solo(7, 0, 0, 1, "f");
            hall.pass(4);
            Halls.tells(hall, 0, Halls.BUMPS, 2);
            Check.same("foresee(0, 2, 4)", hall.foresee(0, 2, 4), 0);
            Check.same("foresee(0, 3, 4)", hall.foresee(0, 3, 4), 1);
            Check.same("foresee(0, 200, 4)", hall.foresee(0, 200, 4), 66);
        });
        Check.test("promise 19: with all that may be there it tells what passing brings", () -> {
            for (int beats : new int[] {1, 2, 3, 9, 50, 199, 200}) {
                WaltzHall hall = Edges.full();
                WaltzHall then = Edges.full();
                then.pass(beats);
                for (int i = 0; i < 8; i++) {
                    foreseesAs(hall, then, i, beats);
                }
                Check.same("digest", hall.digest(), Edges.full().digest());
            }
        });
        Check.test("promise 19: one looked into the empty hall, and then all came", () -> {
            WaltzHall hall = new WaltzHall();
            Check.same("firstToStop", hall.firstToStop(200), -1);
            hall.come(7, 7, 1, 1);
            Check.same("foresee(0, 4, 0)", hall.foresee(0, 4, 0), 7);
            Check.same("foresee(0, 1, 0)", hall.foresee(0, 1, 0), 8);
            hall.come(8, 7, 0, 1);
            Check.same("foresee(0, 1, 4)", hall.foresee(0, 1, 4), 1);
            hall.pair(1, 0);
            Check.same("foresee(0, 1, 1)", hall.foresee(0, 1, 1), 6);
            hall.addWinder(7, 6, 50);
            hall.call(0, 0);
            Check.same("foresee(0, 1, 3)", hall.foresee(0, 1, 3), 149);
            hall.part(0);
            Check.same("foresee(0, 1, 4)", hall.foresee(0, 1, 4), 1);
        });
        Check.test("promise 19: nothing is changed, however far one looks", () -> looks(h -> h.foresee(4, 200, 4)));
    }

    private static void foreseesAs(WaltzHall hall, WaltzHall then, int dancer, int beats) {
        int[] kinds = {Halls.X, Halls.Y, Halls.FACE, Halls.SPRING, Halls.BUMPS};
        for (int what = 0; what < 5; what++) {
            Check.same("foresee(" + dancer + ", " + beats + ", " + what + ")", hall.foresee(dancer, beats, what),
                    then.dancer(dancer, kinds[what]));
        }
    }

    /** A hall that looked ahead and one that did not go on alike. */
    private static void looks(Edges.Call look) {
        WaltzHall hall = Edges.busy();
        look.on(hall);
        Edges.sameFromNowOn("behind looking ahead", hall, Edges.busy());
    }

    private static WaltzHall resting(int cost, int spring) {
        WaltzHall hall = new WaltzHall();
        hall.come(7, 7, 0, cost);
        hall.dance(0, 3);
        hall.wind(0, -200);
        hall.wind(0, spring);
        return hall;
    }

    private static void firstToStop() {
        Check.test("promise 20: beats are 1 to 200", () -> {
            Check.same("firstToStop(1)", resting(1, 1).firstToStop(1), 0);
            Check.same("firstToStop(199)", resting(1, 200).firstToStop(199), -1);
            Check.same("firstToStop(200)", resting(1, 200).firstToStop(200), 0);
            Edges.argument(Edges::busy, h -> h.firstToStop(0), h -> h.firstToStop(201), h -> h.firstToStop(-1),
                    h -> h.firstToStop(Integer.MAX_VALUE), h -> h.firstToStop(Integer.MIN_VALUE));
            Edges.argument(WaltzHall::new, h -> h.firstToStop(0), h -> h.firstToStop(201));
        });
        Check.test("promise 20: a spring of the cost left is no stop, one less is", () -> {
            Check.same("firstToStop(1)", resting(5, 10).firstToStop(1), -1);
            Check.same("firstToStop(1)", resting(5, 9).firstToStop(1), 0);
            Check.same("firstToStop(1)", resting(5, 5).firstToStop(1), 0);
        });
        Check.test("promise 20: the last one of eight, and of all eight the first one", () -> {
            WaltzHall hall = Edges.crowd();
            Check.same("firstToStop(100)", hall.firstToStop(100), 0);
            Check.same("firstToStop(99)", hall.firstToStop(99), -1);
            hall.wind(7, -1);
            Check.same("firstToStop(99)", hall.firstToStop(99), 7);
            hall.wind(6, -1);
            Check.same("firstToStop(99)", hall.firstToStop(99), 6);
        });
        Check.test("promise 20: an earlier beat comes before a smaller number", () -> {
            WaltzHall hall = Edges.crowd();
            hall.wind(0, -1);
            hall.wind(5, -2);
            Check.same("firstToStop(200)", hall.firstToStop(200), 5);
        });
        Check.test("promise 20: nobody in an empty hall", () -> {
            Check.same("firstToStop(200)", new WaltzHall().firstToStop(200), -1);
        });
        Check.test("promise 20: nothing is changed, however far one looks", () -> looks(h -> h.firstToStop(200)));
    }

    private static void stopsNever() {
        Check.test("promise 20: who has too little now never counts, who has just enough does", () -> {
            Check.same("firstToStop(200)", resting(5, 4).firstToStop(200), -1);
            Check.same("firstToStop(200)", resting(5, 0).firstToStop(200), -1);
            Check.same("firstToStop(200)", resting(5, 5).firstToStop(200), 0);
        });
        Check.test("promise 20: who has too little now, is wound up and stops again never counts", () -> {
            WaltzHall hall = resting(5, 4);
            hall.addWinder(7, 7, 1);
            hall.call(0, 0);
            // 5 behind the first beat, 1 behind the second
            Check.same("foresee(0, 1, 3)", hall.foresee(0, 1, 3), 5);
            Check.same("foresee(0, 2, 3)", hall.foresee(0, 2, 3), 1);
            Check.same("firstToStop(200)", hall.firstToStop(200), -1);
        });
        Check.test("promise 20: all have too little now", () -> {
            WaltzHall hall = Edges.crowd();
            for (int i = 0; i < 8; i++) {
                hall.wind(i, -200);
            }
            Check.same("firstToStop(200)", hall.firstToStop(200), -1);
        });
        Check.test("promise 20: who is wound up to its cost in the beat itself does not stop behind it", () -> {
            WaltzHall hall = resting(9, 9);
            hall.addWinder(7, 7, 9);
            hall.call(0, 0);
            Check.same("firstToStop(1)", hall.firstToStop(1), -1);
            WaltzHall less = resting(9, 9);
            less.addWinder(7, 7, 8);
            less.call(0, 0);
            Check.same("firstToStop(1)", less.firstToStop(1), 0);
        });
    }

    /** 0 goes to the right from the column on, 1 stays at 12, 7. */
    private static WaltzHall towards(int column) {
        WaltzHall hall = Halls.solo(column, 7, 1, 1, "f");
        Halls.still(hall, 12, 7);
        return hall;
    }

    private static void meet() {
        Check.test("promise 21: beats are 1 to 200", () -> {
            Check.same("meet(0, 1, 1)", towards(10).meet(0, 1, 1), 1);
            Check.same("meet(0, 1, 200)", towards(10).meet(0, 1, 200), 1);
            Edges.argument(Edges::busy, h -> h.meet(2, 3, 0), h -> h.meet(2, 3, 201), h -> h.meet(2, 3, -1),
                    h -> h.meet(2, 3, Integer.MAX_VALUE));
        });
        Check.test("promise 21: wrong beats are told, even if both stand beside each other now", () -> {
            Edges.argument(Edges::busy, h -> h.meet(0, 1, 0), h -> h.meet(0, 1, 201));
        });
        Check.test("promise 21: at most so many beats", () -> {
            Check.same("meet(0, 1, 10)", towards(1).meet(0, 1, 10), 10);
            Check.same("meet(0, 1, 9)", towards(1).meet(0, 1, 9), -1);
        });
        Check.test("promise 21: 0 if they do now, though they part then", () -> {
            WaltzHall hall = Halls.solo(7, 7, 3, 1, "f");
            Halls.still(hall, 8, 7);
            Check.same("meet(0, 1, 1)", hall.meet(0, 1, 1), 0);
            Check.same("meet(1, 0, 200)", hall.meet(1, 0, 200), 0);
            hall.pass(1);
            Check.same("meet(0, 1, 200)", hall.meet(0, 1, 200), -1);
        });
        Check.test("promise 21: one tile in one of the directions, not two, and no corner", () -> {
            int[][] places = {{7, 6, 0}, {8, 7, 0}, {7, 8, 0}, {6, 7, 0}, {8, 8, -1}, {6, 6, -1}, {8, 6, -1},
                {6, 8, -1}, {9, 7, -1}, {7, 5, -1}};
            for (int[] place : places) {
                WaltzHall hall = new WaltzHall();
                Halls.still(hall, 7, 7);
                Halls.still(hall, place[0], place[1]);
                Check.same("meet(0, 1, 5)", hall.meet(0, 1, 5), place[2]);
            }
        });
        Check.test("promise 21: the first dancer and the last one, and none beside them", () -> {
            WaltzHall hall = Edges.crowd();
            Check.same("meet(0, 7, 9)", hall.meet(0, 7, 9), -1);
            Check.same("meet(7, 0, 9)", hall.meet(7, 0, 9), -1);
            Edges.index(Edges::crowd, h -> h.meet(8, 0, 1), h -> h.meet(0, 8, 1), h -> h.meet(-1, 0, 1),
                    h -> h.meet(0, -1, 1));
        });
        Check.test("promise 21: both the same", () -> {
            Edges.argument(Edges::busy, h -> h.meet(0, 0, 1), h -> h.meet(4, 4, 200), h -> h.meet(4, 4, 0));
        });
        Check.test("promise 21: no such dancer is told before both the same and before wrong beats", () -> {
            Edges.index(Edges::busy, h -> h.meet(5, 5, 1), h -> h.meet(-1, -1, 0), h -> h.meet(5, 0, 0),
                    h -> h.meet(0, 5, 201));
        });
        Check.test("promise 21: nothing is changed, however far one looks", () -> looks(h -> h.meet(2, 3, 200)));
    }

    private static void tension() {
        Check.test("promise 22: 0 if there are no dancers, and if all springs are 0", () -> {
            Check.same("tension()", new WaltzHall().tension(), 0.0);
            Check.same("tension()", resting(1, 0).tension(), 0.0);
        });
        Check.test("promise 22: 200 at most, of one and of eight", () -> {
            Check.same("tension()", resting(1, 200).tension(), 200.0);
            WaltzHall hall = Edges.crowd();
            for (int i = 0; i < 8; i++) {
                hall.wind(i, 100);
            }
            Check.same("tension()", hall.tension(), 200.0);
            hall.wind(7, -1);
            Check.same("tension()", hall.tension(), 199.875);
        });
        Check.test("promise 22: the mean need not be whole", () -> {
            WaltzHall hall = resting(1, 1);
            Halls.still(hall, 1, 1);
            Check.same("tension()", hall.tension(), 0.5);
            Halls.still(hall, 2, 2);
            Check.same("tension()", hall.tension(), 1.0 / 3.0);
        });
    }

    private static void digest() {
        Check.test("promise 23: an empty hall and a full one", () -> {
            WaltzHall empty = new WaltzHall();
            Check.same("digest()", empty.digest(), AheadTests.told(empty));
            WaltzHall full = Edges.full();
            full.pass(9);
            Check.same("digest()", full.digest(), AheadTests.told(full));
        });
        Check.test("promise 23: -1 for nobody and for an empty round is in it", () -> {
            WaltzHall hall = new WaltzHall();
            hall.come(3, 3, 0, 1);
            hall.addWinder(1, 1, 1);
            Check.same("digest()", hall.digest(), AheadTests.told(hall));
        });
        Check.test("promise 23: it wraps around as a 64-bit integer", () -> {
            // A new hall tells 9 counts and 46 numbers of dances: far more than 64 bits.
            java.math.BigInteger d = java.math.BigInteger.valueOf(521);
            String[] dances = {"frbl", "ftftftft", "sswl", "w", "fbfbt", "rrlluu", "flbr", "tutu"};
            for (int what = 0; what < 9; what++) {
                d = d.multiply(java.math.BigInteger.valueOf(31));
            }
            for (String text : dances) {
                d = d.multiply(java.math.BigInteger.valueOf(31)).add(java.math.BigInteger.valueOf(text.length()));
                for (char figure : text.toCharArray()) {
                    d = d.multiply(java.math.BigInteger.valueOf(31)).add(java.math.BigInteger.valueOf(figure));
                }
            }
            Check.isTrue("more than 64 bits", d.bitLength() > 64);
            Check.same("digest()", new WaltzHall().digest(), d.longValue());
        });
    }
}
