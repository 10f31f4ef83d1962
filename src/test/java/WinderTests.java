/** Promises 14 to 16, and what winders do in a beat. */
final class WinderTests {
    private WinderTests() {
    }

    static void run() {
        addWinder();
        call();
        winder();
        rounds();
    }

    private static void addWinder() {
        Check.test("promise 14: three at most, on any tile", () -> {
            WaltzHall hall = new WaltzHall();
            hall.come(2, 3, 0, 1);
            Check.same("addWinder", hall.addWinder(2, 3, 100), 0);
            Check.same("addWinder", hall.addWinder(2, 3, 1), 1);
            Check.same("addWinder", hall.addWinder(15, 0, 50), 2);
            Check.state(hall, () -> hall.addWinder(0, 0, 1));
            Check.argument(hall, () -> hall.addWinder(0, 0, 0));
            Check.same("count(3)", hall.count(3), 3);
            Check.same("come where a winder stands", hall.come(15, 0, 0, 1), 1);
        });
        Check.test("promise 14: no such tile or strength", () -> {
            WaltzHall hall = new WaltzHall();
            int[][] wrong = {
                {-1, 0, 1}, {16, 0, 1}, {0, -1, 1}, {0, 16, 1}, {0, 0, 0}, {0, 0, 101}, {0, 0, -1},
                {Integer.MAX_VALUE, 0, 1}, {0, Integer.MIN_VALUE, 1}, {0, 0, Integer.MAX_VALUE}
            };
            for (int[] w : wrong) {
                Check.argument(hall, () -> hall.addWinder(w[0], w[1], w[2]));
            }
            Check.same("addWinder", hall.addWinder(15, 15, 100), 0);
        });
    }

    private static void call() {
        Check.test("promise 15: eight at most, the same ones too", () -> {
            WaltzHall hall = new WaltzHall();
            hall.come(2, 3, 0, 1);
            hall.come(4, 3, 0, 1);
            hall.addWinder(0, 0, 1);
            hall.addWinder(0, 0, 1);
            for (int i = 1; i <= 8; i++) {
                Check.same("call", hall.call(0, i % 2), i);
            }
            Check.state(hall, () -> hall.call(0, 0));
            Check.same("winder(0, 3)", hall.winder(0, 3), 8);
            Check.same("winder(1, 3)", hall.winder(1, 3), 0);
            Check.same("call", hall.call(1, 0), 1);
        });
        Check.test("promise 15: no such winder or dancer, then a full round", () -> {
            WaltzHall hall = new WaltzHall();
            hall.come(2, 3, 0, 1);
            Check.index(hall, () -> hall.call(0, 0));
            hall.addWinder(0, 0, 1);
            for (int i = 0; i < 8; i++) {
                Check.index(hall, () -> hall.call(0, 1));
                Check.index(hall, () -> hall.call(0, -1));
                Check.index(hall, () -> hall.call(1, 0));
                Check.index(hall, () -> hall.call(-1, 0));
                hall.call(0, 0);
            }
            Check.index(hall, () -> hall.call(0, 1));
            Check.index(hall, () -> hall.call(Integer.MAX_VALUE, Integer.MIN_VALUE));
            Check.state(hall, () -> hall.call(0, 0));
        });
    }

    private static void winder() {
        Check.test("promise 16: all six kinds", () -> {
            WaltzHall hall = new WaltzHall();
            Halls.still(hall, 9, 8);
            Halls.still(hall, 3, 3);
            hall.addWinder(9, 6, 33);
            int[] first = {9, 6, 33, 0, -1, 0};
            for (int what = 0; what < 6; what++) {
                Check.same("winder(0, " + what + ")", hall.winder(0, what), first[what]);
            }
            hall.call(0, 0);
            hall.call(0, 1);
            Check.same("winder(0, 4)", hall.winder(0, 4), 0);
            hall.pass(2);
            int[] then = {9, 7, 33, 2, 1, 1};
            for (int what = 0; what < 6; what++) {
                Check.same("winder(0, " + what + ")", hall.winder(0, what), then[what]);
            }
        });
        Check.test("promise 16: no such winder or kind", () -> {
            WaltzHall hall = new WaltzHall();
            Check.index(hall, () -> hall.winder(0, 0));
            hall.addWinder(0, 0, 1);
            Check.index(hall, () -> hall.winder(0, 6));
            Check.index(hall, () -> hall.winder(0, -1));
            Check.index(hall, () -> hall.winder(1, 0));
            Check.index(hall, () -> hall.winder(-1, 0));
            Check.index(hall, () -> hall.winder(Integer.MIN_VALUE, Integer.MAX_VALUE));
        });
    }

    private static void rounds() {
        Check.test("promise 17: a winder goes in its row first, then in its column", () -> {
            WaltzHall hall = new WaltzHall();
            Halls.still(hall, 7, 7);
            hall.addWinder(4, 10, 10);
            hall.call(0, 0);
            int[][] way = {{5, 10}, {6, 10}, {7, 10}, {7, 9}, {7, 8}, {7, 8}};
            for (int i = 0; i < way.length; i++) {
                Halls.tells(hall, 0, Halls.SPRING, 0);
                hall.pass(1);
                Halls.winderStands(hall, 0, way[i][0], way[i][1]);
            }
            Halls.tells(hall, 0, Halls.SPRING, 10);
            Check.same("winder(0, 5)", hall.winder(0, 5), 1);
        });
        Check.test("promise 17: towards it from every side", () -> {
            walks(3, 3, 4, 3);
            walks(12, 3, 11, 3);
            walks(3, 12, 4, 12);
            walks(12, 12, 11, 12);
            walks(8, 8, 7, 8);
            walks(6, 8, 7, 8);
            walks(6, 6, 7, 6);
            walks(7, 0, 7, 1);
            walks(7, 15, 7, 14);
            walks(0, 7, 1, 7);
            walks(15, 7, 14, 7);
            walks(9, 7, 8, 7);
            walks(7, 9, 7, 8);
        });
        Check.test("promise 17: on the same tile, or beside", () -> {
            winds(7, 7);
            winds(6, 7);
            winds(8, 7);
            winds(7, 6);
            winds(7, 8);
        });
        Check.test("promise 17: at least 150 is enough, and 200 is the most", () -> {
            WaltzHall hall = new WaltzHall();
            hall.come(7, 7, 0, 1);
            hall.come(8, 7, 0, 1);
            hall.dance(0, 3);
            hall.dance(1, 3);
            hall.addWinder(7, 7, 100);
            hall.call(0, 0);
            hall.call(0, 1);
            hall.wind(0, 51);
            hall.wind(1, 51);
            hall.pass(1);
            // 151, less 1 for w, is 150: enough
            Halls.tells(hall, 0, Halls.SPRING, 150);
            Check.same("winder(0, 4)", hall.winder(0, 4), 1);
            Check.same("winder(0, 5)", hall.winder(0, 5), 0);
            hall.pass(1);
            // 151, less 2, is 149: not enough
            Halls.tells(hall, 1, Halls.SPRING, 200);
            Check.same("winder(0, 4)", hall.winder(0, 4), 0);
            Check.same("winder(0, 5)", hall.winder(0, 5), 1);
        });
        Check.test("promise 17: who has enough is left out from afar, without a step", () -> {
            WaltzHall hall = new WaltzHall();
            hall.come(7, 7, 0, 1);
            hall.dance(0, 3);
            hall.wind(0, 100);
            Halls.still(hall, 0, 1);
            hall.addWinder(0, 0, 5);
            hall.call(0, 0);
            hall.call(0, 1);
            hall.pass(1);
            Halls.winderStands(hall, 0, 0, 0);
            Check.same("winder(0, 4)", hall.winder(0, 4), 1);
            hall.pass(1);
            Check.same("winder(0, 4)", hall.winder(0, 4), 0);
            Check.same("winder(0, 5)", hall.winder(0, 5), 1);
            Halls.tells(hall, 1, Halls.SPRING, 5);
        });
        Check.test("promise 17: again and again, and who is called late stands at the end", () -> {
            WaltzHall hall = new WaltzHall();
            Halls.still(hall, 7, 7);
            Halls.still(hall, 7, 8);
            hall.addWinder(7, 7, 1);
            hall.call(0, 0);
            hall.pass(1);
            Check.same("winder(0, 4)", hall.winder(0, 4), 0);
            hall.call(0, 1);
            Check.same("winder(0, 4)", hall.winder(0, 4), 0);
            hall.pass(1);
            Check.same("winder(0, 4)", hall.winder(0, 4), 1);
            hall.call(0, 1);
            hall.pass(1);
            Check.same("winder(0, 4)", hall.winder(0, 4), 1);
            hall.pass(1);
            Check.same("winder(0, 4)", hall.winder(0, 4), 0);
            Check.same("winder(0, 5)", hall.winder(0, 5), 4);
        });
        Check.test("promise 17: winders in ascending order, behind the dancers", () -> {
            WaltzHall hall = new WaltzHall();
            hall.come(7, 7, 1, 1);
            hall.dance(0, 3);
            hall.wind(0, 49);
            hall.addWinder(7, 7, 2);
            hall.addWinder(7, 7, 100);
            hall.addWinder(0, 0, 100);
            hall.call(0, 0);
            hall.call(1, 0);
            hall.pass(1);
            // 149, less 1, and 2 more, is 150, so the second one finds enough
            Halls.tells(hall, 0, Halls.SPRING, 150);
            Check.same("winder(0, 5)", hall.winder(0, 5), 1);
            Check.same("winder(1, 5)", hall.winder(1, 5), 0);
            Halls.winderStands(hall, 2, 0, 0);
        });
        Check.test("promise 17: a winder goes to where the dancer stands behind its figure", () -> {
            WaltzHall hall = Halls.solo(7, 7, 2, 1, "f");
            hall.addWinder(7, 6, 10);
            hall.call(0, 0);
            hall.pass(1);
            Halls.winderStands(hall, 0, 7, 7);
            Halls.tells(hall, 0, Halls.SPRING, 99);
        });
        Check.test("promise 17: winders are in nobody's way", () -> {
            WaltzHall hall = Halls.solo(7, 7, 0, 1, "f");
            hall.addWinder(7, 6, 10);
            Check.same("pass", hall.pass(1), 0);
            Halls.stands(hall, 0, 7, 6, 0);
        });
    }

    private static void walks(int x, int y, int nextX, int nextY) {
        step(x, y, nextX, nextY, 0);
    }

    private static void winds(int x, int y) {
        step(x, y, x, y, 10);
    }

    /** What a winder does in a beat whose turn is of somebody with the spring 0, at 7, 7. */
    private static void step(int x, int y, int nextX, int nextY, int spring) {
        WaltzHall hall = new WaltzHall();
        Halls.still(hall, 7, 7);
        hall.addWinder(x, y, 10);
        hall.call(0, 0);
        hall.pass(1);
        Halls.winderStands(hall, 0, nextX, nextY);
        Check.same("winder(0, 5)", hall.winder(0, 5), spring == 0 ? 0 : 1);
        Halls.tells(hall, 0, Halls.SPRING, spring);
    }
}
