/** The boundary cases in the promises 14 to 16, and in what winders do in a beat. */
final class EdgeWinderTests {
    private EdgeWinderTests() {
    }

    static void run() {
        addWinder();
        call();
        winder();
        turns();
        winding();
        ways();
    }

    private static WaltzHall withThree() {
        WaltzHall hall = Edges.busy();
        hall.addWinder(0, 0, 1);
        return hall;
    }

    private static void addWinder() {
        Check.test("promise 14: x and y are 0 to 15", () -> {
            WaltzHall hall = new WaltzHall();
            Check.same("addWinder", hall.addWinder(0, 15, 1), 0);
            Check.same("addWinder", hall.addWinder(15, 0, 1), 1);
            Edges.argument(Edges::busy, h -> h.addWinder(-1, 0, 1), h -> h.addWinder(16, 0, 1),
                    h -> h.addWinder(0, -1, 1), h -> h.addWinder(0, 16, 1),
                    h -> h.addWinder(Integer.MAX_VALUE, 0, 1), h -> h.addWinder(0, Integer.MIN_VALUE, 1));
        });
        Check.test("promise 14: the strength is 1 to 100", () -> {
            WaltzHall hall = new WaltzHall();
            Check.same("addWinder", hall.addWinder(1, 1, 1), 0);
            Check.same("addWinder", hall.addWinder(1, 1, 100), 1);
            Edges.argument(Edges::busy, h -> h.addWinder(1, 1, 0), h -> h.addWinder(1, 1, 101),
                    h -> h.addWinder(1, 1, -1), h -> h.addWinder(1, 1, Integer.MAX_VALUE));
        });
        Check.test("promise 14: with two another one comes, with three none", () -> {
            Check.same("addWinder", Edges.busy().addWinder(0, 0, 1), 2);
            Edges.state(EdgeWinderTests::withThree, h -> h.addWinder(0, 0, 1), h -> h.addWinder(15, 15, 100));
        });
        Check.test("promise 14: a wrong argument is told before the three", () -> {
            Edges.argument(EdgeWinderTests::withThree, h -> h.addWinder(16, 0, 1), h -> h.addWinder(0, -1, 1),
                    h -> h.addWinder(0, 0, 0), h -> h.addWinder(0, 0, 101));
        });
        Check.test("promise 14: the round is empty", () -> {
            WaltzHall hall = new WaltzHall();
            hall.come(3, 3, 0, 1);
            hall.addWinder(3, 3, 1);
            Check.same("winder(0, 3)", hall.winder(0, 3), 0);
            Check.same("winder(0, 4)", hall.winder(0, 4), -1);
        });
    }

    /** The busy hall, the round of the winder 1 with as many as it has. */
    private static WaltzHall withRound(int length) {
        WaltzHall hall = Edges.busy();
        for (int i = 3; i <= length; i++) {
            Check.same("call", hall.call(1, i % 5), i);
        }
        return hall;
    }

    private static void call() {
        Check.test("promise 15: with seven in the round another one is called, with eight none", () -> {
            Check.same("call", withRound(7).call(1, 0), 8);
            Edges.state(() -> withRound(8), h -> h.call(1, 0), h -> h.call(1, 4));
        });
        Check.test("promise 15: the round of another winder is another one", () -> {
            Check.same("call", withRound(8).call(0, 0), 4);
        });
        Check.test("promise 15: the first winder and the last one, and none beside them", () -> {
            Check.same("call", Edges.busy().call(0, 0), 4);
            Check.same("call", Edges.busy().call(1, 0), 3);
            Check.same("call", withThree().call(2, 0), 1);
            Edges.index(Edges::busy, h -> h.call(-1, 0), h -> h.call(2, 0), h -> h.call(3, 0));
            Edges.index(EdgeWinderTests::withThree, h -> h.call(3, 0));
        });
        Check.test("promise 15: the first dancer and the last one, and none beside them", () -> {
            Check.same("call", Edges.busy().call(0, 4), 4);
            Edges.index(Edges::busy, h -> h.call(0, -1), h -> h.call(0, 5), h -> h.call(0, Integer.MAX_VALUE));
        });
        Check.test("promise 15: no such winder or dancer is told before the full round", () -> {
            Edges.index(() -> withRound(8), h -> h.call(1, -1), h -> h.call(1, 5), h -> h.call(2, 0));
        });
        Check.test("promise 15: the one whose turn it is may be called again, at the end", () -> {
            WaltzHall hall = new WaltzHall();
            Halls.still(hall, 7, 7);
            hall.addWinder(7, 7, 1);
            for (int i = 1; i <= 8; i++) {
                Check.same("call", hall.call(0, 0), i);
            }
            hall.pass(9);
            Halls.tells(hall, 0, Halls.SPRING, 9 - hall.dancer(0, Halls.FIGURES));
            Check.same("winder(0, 5)", hall.winder(0, 5), 9);
        });
    }

    private static void winder() {
        Check.test("promise 16: what is 0 to 5", () -> {
            Check.same("winder(1, 2)", Edges.busy().winder(1, 2), 100);
            Check.same("winder(1, 5)", Edges.busy().winder(1, 5), 0);
            Edges.index(Edges::busy, h -> h.winder(0, -1), h -> h.winder(0, 6), h -> h.winder(1, 6));
        });
        Check.test("promise 16: the first winder and the last one, and none beside them", () -> {
            Check.same("winder(0, 2)", withThree().winder(0, 2), 30);
            Check.same("winder(2, 2)", withThree().winder(2, 2), 1);
            Edges.index(Edges::busy, h -> h.winder(-1, 0), h -> h.winder(2, 0));
            Edges.index(EdgeWinderTests::withThree, h -> h.winder(3, 0));
        });
        Check.test("promise 16: -1 if the round is empty, else the dancer, 0 too", () -> {
            WaltzHall hall = new WaltzHall();
            hall.come(3, 3, 0, 1);
            hall.addWinder(9, 9, 1);
            Check.same("winder(0, 4)", hall.winder(0, 4), -1);
            hall.pass(5);
            Check.same("winder(0, 4)", hall.winder(0, 4), -1);
            hall.call(0, 0);
            Check.same("winder(0, 4)", hall.winder(0, 4), 0);
        });
    }

    /** 0 with the spring at 7, 7, where the winder is, too, and 1 behind it in the round. */
    private static WaltzHall atHand(int spring, int strength) {
        WaltzHall hall = new WaltzHall();
        hall.come(7, 7, 0, 9);
        Halls.still(hall, 12, 12);
        hall.come(7, 8, 0, 9);
        // Both of this couple rest, for the other one is spent: nothing is taken from the spring.
        hall.wind(2, -200);
        hall.pair(2, 0);
        hall.wind(0, -200);
        hall.wind(0, spring);
        hall.addWinder(7, 7, strength);
        hall.call(0, 0);
        hall.call(0, 1);
        return hall;
    }

    private static void winds(int spring, int strength, int due) {
        WaltzHall hall = atHand(spring, strength);
        hall.pass(1);
        Halls.tells(hall, 0, Halls.SPRING, due);
        Check.same("winder(0, 4)", hall.winder(0, 4), 1);
        Check.same("winder(0, 5) with the spring " + spring, hall.winder(0, 5), spring >= 150 ? 0 : 1);
    }

    private static void winding() {
        Check.test("terms, a beat, 2: a spring of 149 is wound up, one of 150 is not", () -> {
            winds(149, 1, 150);
            winds(150, 1, 150);
            winds(151, 1, 151);
            winds(200, 100, 200);
            winds(0, 1, 1);
        });
        Check.test("terms, a beat, 2: the spring is strength more, at most 200", () -> {
            winds(149, 50, 199);
            winds(149, 51, 200);
            winds(149, 52, 200);
            winds(100, 100, 200);
            winds(101, 100, 200);
            winds(99, 100, 199);
            winds(0, 100, 100);
        });
        Check.test("terms, a beat, 2: a winder winds up one in a beat", () -> {
            WaltzHall hall = new WaltzHall();
            Halls.still(hall, 7, 7);
            Halls.still(hall, 7, 8);
            hall.addWinder(7, 7, 5);
            hall.call(0, 0);
            hall.call(0, 1);
            hall.pass(1);
            Halls.tells(hall, 0, Halls.SPRING, 5);
            Halls.tells(hall, 1, Halls.SPRING, 0);
        });
        Check.test("terms, a beat, 2: winders come behind all dancers", () -> {
            WaltzHall hall = new WaltzHall();
            Halls.still(hall, 7, 7);
            hall.addWinder(7, 7, 5);
            hall.call(0, 0);
            hall.pass(1);
            // What is wound up now is spent by the next beat at the earliest.
            Halls.tells(hall, 0, Halls.SPRING, 5);
            Halls.tells(hall, 0, Halls.FIGURES, 0);
            hall.pass(1);
            Halls.tells(hall, 0, Halls.FIGURES, 1);
            Halls.tells(hall, 0, Halls.SPRING, 9);
        });
        Check.test("terms, a beat, 2: three winders in ascending order, up to 150 and no further", () -> {
            WaltzHall hall = atHand(148, 1);
            hall.addWinder(6, 7, 1);
            hall.addWinder(7, 6, 1);
            hall.call(1, 0);
            hall.call(2, 0);
            hall.pass(1);
            Halls.tells(hall, 0, Halls.SPRING, 150);
            Check.same("winder(0, 5)", hall.winder(0, 5), 1);
            Check.same("winder(1, 5)", hall.winder(1, 5), 1);
            Check.same("winder(2, 5)", hall.winder(2, 5), 0);
        });
        Check.test("terms, a beat, 2: a winder whose round is empty rests", () -> {
            WaltzHall hall = atHand(0, 1);
            hall.addWinder(1, 1, 100);
            hall.pass(3);
            Halls.winderStands(hall, 1, 1, 1);
            Check.same("winder(1, 4)", hall.winder(1, 4), -1);
            Check.same("winder(1, 5)", hall.winder(1, 5), 0);
        });
        Check.test("terms, a beat, 2: who is dizzy or spent is wound up all the same", () -> {
            WaltzHall hall = Halls.solo(7, 0, 0, 1, "f");
            hall.addWinder(7, 0, 3);
            hall.call(0, 0);
            hall.pass(2);
            Halls.tells(hall, 0, Halls.SPRING, 106);
            Halls.tells(hall, 0, Halls.DIZZY, 1);
        });
    }

    private static void turns() {
        Check.test("terms, a beat, 2: with a full round of enough wound up each beat has its own", () -> {
            WaltzHall hall = Edges.crowd();
            hall.addWinder(15, 15, 1);
            for (int i = 0; i < 8; i++) {
                hall.dance(i, 3);
                hall.wind(i, 100);
                hall.call(0, i);
            }
            for (int beat = 1; beat <= 16; beat++) {
                hall.pass(1);
                Check.same("winder(0, 4)", hall.winder(0, 4), beat % 8);
            }
            Halls.winderStands(hall, 0, 15, 15);
            Check.same("winder(0, 5)", hall.winder(0, 5), 0);
        });
        Check.test("terms, a beat, 2: on its way it stays the turn of the same one", () -> {
            WaltzHall hall = new WaltzHall();
            Halls.still(hall, 0, 0);
            Halls.still(hall, 15, 15);
            hall.addWinder(15, 15, 1);
            hall.call(0, 0);
            hall.call(0, 1);
            // 15 columns, then 14 rows, to the tile beside
            hall.pass(29);
            Halls.winderStands(hall, 0, 0, 1);
            Check.same("winder(0, 4)", hall.winder(0, 4), 0);
            Check.same("winder(0, 5)", hall.winder(0, 5), 0);
            hall.pass(1);
            Halls.winderStands(hall, 0, 0, 1);
            Check.same("winder(0, 4)", hall.winder(0, 4), 1);
            Check.same("winder(0, 5)", hall.winder(0, 5), 1);
        });
    }

    /** Where a winder is behind a beat whose turn is of somebody spent at 7, 7; it winds if it stays. */
    private static void step(int x, int y, int thenX, int thenY) {
        WaltzHall hall = new WaltzHall();
        Halls.still(hall, 7, 7);
        hall.addWinder(x, y, 4);
        hall.call(0, 0);
        hall.pass(1);
        Halls.winderStands(hall, 0, thenX, thenY);
        Halls.tells(hall, 0, Halls.SPRING, x == thenX && y == thenY ? 4 : 0);
    }

    private static void ways() {
        Check.test("terms, a beat, 2: on the same tile or one tile in one of the directions it winds", () -> {
            step(7, 7, 7, 7);
            step(7, 6, 7, 6);
            step(8, 7, 8, 7);
            step(7, 8, 7, 8);
            step(6, 7, 6, 7);
        });
        Check.test("terms, a beat, 2: two tiles off it goes one", () -> {
            step(7, 5, 7, 6);
            step(9, 7, 8, 7);
            step(7, 9, 7, 8);
            step(5, 7, 6, 7);
        });
        Check.test("terms, a beat, 2: at a corner it goes in its row", () -> {
            step(6, 6, 7, 6);
            step(8, 6, 7, 6);
            step(6, 8, 7, 8);
            step(8, 8, 7, 8);
        });
        Check.test("terms, a beat, 2: in its row as long as the columns differ, by one, too", () -> {
            step(6, 0, 7, 0);
            step(8, 15, 7, 15);
            step(7, 0, 7, 1);
            step(7, 15, 7, 14);
        });
        Check.test("terms, a beat, 2: a winder does not go round the edge", () -> {
            WaltzHall hall = new WaltzHall();
            Halls.still(hall, 0, 15);
            hall.addWinder(15, 0, 1);
            hall.call(0, 0);
            hall.pass(1);
            Halls.winderStands(hall, 0, 14, 0);
            hall.pass(15);
            Halls.winderStands(hall, 0, 0, 1);
        });
    }
}
