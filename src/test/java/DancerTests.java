/** Promises 7 to 13. */
final class DancerTests {
    private DancerTests() {
    }

    static void run() {
        come();
        dance();
        pair();
        part();
        wind();
        dancer();
        at();
    }

    private static void come() {
        Check.test("promise 7: who comes begins with the dance 0", () -> {
            WaltzHall hall = new WaltzHall();
            Check.same("come", hall.come(3, 12, 2, 9), 0);
            Check.same("come", hall.come(0, 15, 3, 1), 1);
            Check.same("come", hall.come(15, 0, 0, 5), 2);
            int[] due = {3, 12, 2, 100, 9, 0, 0, -1, 0, 0, 0, 0};
            for (int what = 0; what < 12; what++) {
                Halls.tells(hall, 0, what, due[what]);
            }
            Halls.stands(hall, 1, 0, 15, 3);
            Halls.stands(hall, 2, 15, 0, 0);
            Halls.tells(hall, 2, Halls.COST, 5);
        });
        Check.test("promise 7: no such tile, face or cost", () -> {
            WaltzHall hall = new WaltzHall();
            int[][] wrong = {
                {-1, 0, 0, 1}, {16, 0, 0, 1}, {0, -1, 0, 1}, {0, 16, 0, 1}, {0, 0, -1, 1}, {0, 0, 4, 1},
                {0, 0, 0, 0}, {0, 0, 0, 10}, {0, 0, 0, -1}, {Integer.MIN_VALUE, 0, 0, 1},
                {0, Integer.MAX_VALUE, 0, 1}, {0, 0, Integer.MAX_VALUE, 1}, {0, 0, 0, Integer.MAX_VALUE}
            };
            for (int[] w : wrong) {
                Check.argument(hall, () -> hall.come(w[0], w[1], w[2], w[3]));
            }
            Check.same("come", hall.come(0, 0, 0, 1), 0);
        });
        Check.test("promise 7: a taken tile, and a wrong argument there", () -> {
            WaltzHall hall = new WaltzHall();
            hall.come(4, 4, 0, 1);
            Check.state(hall, () -> hall.come(4, 4, 1, 2));
            Check.argument(hall, () -> hall.come(4, 4, 4, 2));
            Check.argument(hall, () -> hall.come(4, 4, 1, 0));
            Check.same("come beside", hall.come(4, 5, 0, 1), 1);
        });
        Check.test("promise 7: eight at most", () -> {
            WaltzHall hall = new WaltzHall();
            for (int i = 0; i < 8; i++) {
                Check.same("come", hall.come(i, i, 0, 1), i);
            }
            Check.state(hall, () -> hall.come(15, 0, 0, 1));
            Check.argument(hall, () -> hall.come(16, 0, 0, 1));
            Check.same("count(1)", hall.count(1), 8);
        });
        Check.test("promise 7: a tile that was left is free", () -> {
            WaltzHall hall = Halls.solo(4, 4, 0, 1, "fw");
            hall.pass(1);
            Check.same("come", hall.come(4, 4, 0, 1), 1);
            Check.state(hall, () -> hall.come(4, 3, 0, 1));
        });
    }

    private static void dance() {
        Check.test("promise 8: the dance before, and the place 0", () -> {
            WaltzHall hall = new WaltzHall();
            hall.come(8, 8, 0, 1);
            hall.come(3, 3, 0, 1);
            hall.pass(2);
            Halls.tells(hall, 0, Halls.PLACE, 2);
            Check.same("dance", hall.dance(0, 7), 0);
            Halls.tells(hall, 0, Halls.DANCE, 7);
            Halls.tells(hall, 0, Halls.PLACE, 0);
            hall.pass(1);
            Halls.tells(hall, 0, Halls.PLACE, 1);
            Check.same("dance", hall.dance(0, 7), 7);
            Halls.tells(hall, 0, Halls.PLACE, 0);
            Check.same("dance", hall.dance(0, 1), 7);
            Halls.tells(hall, 1, Halls.DANCE, 0);
            Halls.tells(hall, 1, Halls.PLACE, 3);
        });
        Check.test("promise 8: no such dancer or dance", () -> {
            WaltzHall hall = new WaltzHall();
            Check.index(hall, () -> hall.dance(0, 0));
            hall.come(8, 8, 0, 1);
            Check.index(hall, () -> hall.dance(1, 0));
            Check.index(hall, () -> hall.dance(-1, 0));
            Check.index(hall, () -> hall.dance(0, 8));
            Check.index(hall, () -> hall.dance(0, -1));
            Check.index(hall, () -> hall.dance(Integer.MAX_VALUE, Integer.MIN_VALUE));
        });
    }

    private static void pair() {
        Check.test("promise 9: who leads and who follows", () -> {
            WaltzHall hall = new WaltzHall();
            hall.come(5, 5, 0, 1);
            hall.come(5, 6, 0, 1);
            hall.come(5, 7, 0, 1);
            hall.come(6, 7, 0, 1);
            Check.same("pair", hall.pair(1, 0), 1);
            Check.same("pair", hall.pair(2, 3), 2);
            int[] partners = {1, 0, 3, 2};
            int[] follows = {1, 0, 0, 1};
            for (int i = 0; i < 4; i++) {
                Halls.tells(hall, i, Halls.PARTNER, partners[i]);
                Halls.tells(hall, i, Halls.FOLLOWS, follows[i]);
            }
        });
        Check.test("promise 9: in each of the directions, and nowhere else", () -> {
            for (int dx = -2; dx <= 2; dx++) {
                for (int dy = -2; dy <= 2; dy++) {
                    WaltzHall hall = new WaltzHall();
                    hall.come(7, 7, 0, 1);
                    if (dx == 0 && dy == 0) {
                        continue;
                    }
                    hall.come(7 + dx, 7 + dy, 0, 1);
                    if (dx * dx + dy * dy == 1) {
                        Check.same("pair", hall.pair(0, 1), 1);
                    } else {
                        Check.state(hall, () -> hall.pair(0, 1));
                    }
                }
            }
        });
        Check.test("promise 9: the edge of the floor joins nothing", () -> {
            WaltzHall hall = new WaltzHall();
            hall.come(0, 5, 0, 1);
            hall.come(15, 5, 0, 1);
            hall.come(15, 4, 0, 1);
            Check.state(hall, () -> hall.pair(0, 1));
            Check.state(hall, () -> hall.pair(0, 2));
        });
        Check.test("promise 9: who is in a couple", () -> {
            WaltzHall hall = new WaltzHall();
            hall.come(5, 5, 0, 1);
            hall.come(5, 6, 0, 1);
            hall.come(5, 7, 0, 1);
            hall.come(5, 4, 0, 1);
            hall.pair(0, 1);
            Check.state(hall, () -> hall.pair(1, 2));
            Check.state(hall, () -> hall.pair(2, 1));
            Check.state(hall, () -> hall.pair(3, 0));
            Check.state(hall, () -> hall.pair(0, 3));
            Check.state(hall, () -> hall.pair(0, 1));
            Check.state(hall, () -> hall.pair(1, 0));
            Check.argument(hall, () -> hall.pair(0, 0));
        });
        Check.test("promise 9: no such dancer, then the same one, then the rest", () -> {
            WaltzHall hall = new WaltzHall();
            hall.come(5, 5, 0, 1);
            Check.index(hall, () -> hall.pair(0, 1));
            Check.index(hall, () -> hall.pair(1, 0));
            Check.index(hall, () -> hall.pair(1, 1));
            Check.index(hall, () -> hall.pair(-1, -1));
            Check.index(hall, () -> hall.pair(0, Integer.MAX_VALUE));
            Check.argument(hall, () -> hall.pair(0, 0));
        });
    }

    private static void part() {
        Check.test("promise 10: the other one is told, and both are alone", () -> {
            WaltzHall hall = Halls.couple(5, 5, 0, 6, 5, "w");
            Check.same("part(0)", hall.part(0), 1);
            Check.same("count(2)", hall.count(2), 0);
            for (int i = 0; i < 2; i++) {
                Halls.tells(hall, i, Halls.PARTNER, -1);
                Halls.tells(hall, i, Halls.FOLLOWS, 0);
            }
            Check.same("pair", hall.pair(1, 0), 1);
            Check.same("part(0)", hall.part(0), 1);
            Check.same("pair", hall.pair(1, 0), 1);
            Check.same("part(1)", hall.part(1), 0);
            hall.pass(1);
            Halls.tells(hall, 0, Halls.FIGURES, 1);
            Halls.tells(hall, 1, Halls.FIGURES, 1);
        });
        Check.test("promise 10: no such dancer, no couple", () -> {
            WaltzHall hall = Halls.couple(5, 5, 0, 6, 5, "w");
            hall.come(1, 1, 0, 1);
            Check.index(hall, () -> hall.part(3));
            Check.index(hall, () -> hall.part(-1));
            Check.index(hall, () -> hall.part(Integer.MIN_VALUE));
            Check.state(hall, () -> hall.part(2));
            hall.part(1);
            Check.state(hall, () -> hall.part(0));
            Check.state(hall, () -> hall.part(1));
        });
    }

    private static void wind() {
        Check.test("promise 11: 0 to 200", () -> {
            WaltzHall hall = new WaltzHall();
            hall.come(5, 5, 0, 1);
            hall.come(7, 7, 0, 1);
            Check.same("wind", hall.wind(0, 30), 130);
            Check.same("wind", hall.wind(0, 0), 130);
            Check.same("wind", hall.wind(0, 70), 200);
            Check.same("wind", hall.wind(0, 1), 200);
            Check.same("wind", hall.wind(0, -1), 199);
            Check.same("wind", hall.wind(0, 200), 200);
            Check.same("wind", hall.wind(0, -150), 50);
            Check.same("wind", hall.wind(0, -50), 0);
            Check.same("wind", hall.wind(0, -1), 0);
            Check.same("wind", hall.wind(0, 7), 7);
            Check.same("wind", hall.wind(0, -200), 0);
            Halls.tells(hall, 0, Halls.SPRING, 0);
            Halls.tells(hall, 1, Halls.SPRING, 100);
        });
        Check.test("promise 11: no such dancer, then too much", () -> {
            WaltzHall hall = new WaltzHall();
            hall.come(5, 5, 0, 1);
            Check.argument(hall, () -> hall.wind(0, 201));
            Check.argument(hall, () -> hall.wind(0, -201));
            Check.argument(hall, () -> hall.wind(0, Integer.MAX_VALUE));
            Check.argument(hall, () -> hall.wind(0, Integer.MIN_VALUE));
            Check.index(hall, () -> hall.wind(1, 0));
            Check.index(hall, () -> hall.wind(-1, 0));
            Check.index(hall, () -> hall.wind(1, 201));
        });
    }

    private static void dancer() {
        Check.test("promise 12: all twelve kinds", () -> {
            WaltzHall hall = new WaltzHall();
            hall.come(0, 9, 1, 4);
            hall.come(0, 10, 2, 3);
            hall.dance(0, 6);
            hall.dance(1, 4);
            hall.pair(0, 1);
            // The face is to the right: f goes there, l up, b to the left.
            hall.pass(3);
            int[] leads = {0, 8, 1, 88, 4, 6, 3, 1, 0, 0, 3, 0};
            int[] follows = {0, 9, 2, 91, 3, 4, 0, 0, 1, 0, 3, 0};
            for (int what = 0; what < 12; what++) {
                Halls.tells(hall, 0, what, leads[what]);
                Halls.tells(hall, 1, what, follows[what]);
            }
            // Behind these three comes one more b, off the floor.
            Halls.teach(hall, 6, "wwwb");
            hall.pass(1);
            int[] bumped = {0, 8, 1, 88, 4, 6, 0, 1, 0, 2, 3, 1};
            for (int what = 0; what < 12; what++) {
                Halls.tells(hall, 0, what, bumped[what]);
            }
            Halls.tells(hall, 1, Halls.DIZZY, 2);
            Halls.tells(hall, 1, Halls.BUMPS, 1);
        });
        Check.test("promise 12: no such dancer or kind", () -> {
            WaltzHall hall = new WaltzHall();
            hall.come(5, 5, 0, 1);
            Check.index(hall, () -> hall.dancer(0, 12));
            Check.index(hall, () -> hall.dancer(0, -1));
            Check.index(hall, () -> hall.dancer(1, 0));
            Check.index(hall, () -> hall.dancer(-1, 0));
            Check.index(hall, () -> hall.dancer(8, 0));
            Check.index(hall, () -> hall.dancer(Integer.MAX_VALUE, Integer.MIN_VALUE));
        });
    }

    private static void at() {
        Check.test("promise 13: who stands there", () -> {
            WaltzHall hall = new WaltzHall();
            hall.come(0, 0, 0, 1);
            hall.come(15, 15, 0, 1);
            hall.come(3, 9, 1, 1);
            hall.addWinder(4, 4, 1);
            Check.same("at", hall.at(0, 0), 0);
            Check.same("at", hall.at(15, 15), 1);
            Check.same("at", hall.at(3, 9), 2);
            Check.same("at", hall.at(9, 3), -1);
            Check.same("at a winder", hall.at(4, 4), -1);
            hall.pass(1);
            Check.same("at", hall.at(3, 9), -1);
            Check.same("at", hall.at(4, 9), 2);
        });
        Check.test("promise 13: no such tile", () -> {
            WaltzHall hall = new WaltzHall();
            Check.index(hall, () -> hall.at(16, 0));
            Check.index(hall, () -> hall.at(0, 16));
            Check.index(hall, () -> hall.at(-1, 0));
            Check.index(hall, () -> hall.at(0, -1));
            Check.index(hall, () -> hall.at(Integer.MAX_VALUE, Integer.MIN_VALUE));
        });
    }
}
