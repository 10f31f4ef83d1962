/** The boundary cases in "Terms": the floor, directions, dances, the tape, dancers, winders, refused calls. */
final class EdgeTermsTests {
    private static final int[][] CORNERS = {{0, 0}, {15, 0}, {0, 15}, {15, 15}};
    private static final String LETTERS = "fblrtusw";

    private EdgeTermsTests() {
    }

    static void run() {
        floor();
        directions();
        dances();
        tape();
        dancers();
        winders();
        refusals();
        calls();
    }

    private static void floor() {
        Check.test("terms: columns and rows are 0 to 15, for dancers", () -> {
            WaltzHall hall = new WaltzHall();
            for (int i = 0; i < 4; i++) {
                Check.same("come", hall.come(CORNERS[i][0], CORNERS[i][1], 0, 1), i);
                Check.same("at", hall.at(CORNERS[i][0], CORNERS[i][1]), i);
            }
            Edges.argument(WaltzHall::new, h -> h.come(-1, 0, 0, 1), h -> h.come(16, 0, 0, 1),
                    h -> h.come(0, -1, 0, 1), h -> h.come(0, 16, 0, 1));
        });
        Check.test("terms: columns and rows are 0 to 15, for winders", () -> {
            for (int[] corner : CORNERS) {
                WaltzHall hall = new WaltzHall();
                Check.same("addWinder", hall.addWinder(corner[0], corner[1], 1), 0);
                Halls.winderStands(hall, 0, corner[0], corner[1]);
            }
            Edges.argument(WaltzHall::new, h -> h.addWinder(-1, 0, 1), h -> h.addWinder(16, 0, 1),
                    h -> h.addWinder(0, -1, 1), h -> h.addWinder(0, 16, 1));
        });
        Check.test("terms: the last tile each way is reached, and nothing lies behind it", () -> {
            int[][] last = {{7, 0}, {15, 7}, {7, 15}, {0, 7}};
            int[][] before = {{7, 1}, {14, 7}, {7, 14}, {1, 7}};
            for (int face = 0; face < 4; face++) {
                WaltzHall hall = Halls.solo(before[face][0], before[face][1], face, 1, "f");
                Check.same("pass to the last tile", hall.pass(1), 0);
                Halls.stands(hall, 0, last[face][0], last[face][1], face);
                Check.same("pass beyond it", hall.pass(1), 1);
                Halls.stands(hall, 0, last[face][0], last[face][1], face);
            }
        });
        Check.test("terms: the floor does not go round", () -> {
            int[][] from = {{7, 0}, {15, 7}, {7, 15}, {0, 7}};
            for (int face = 0; face < 4; face++) {
                WaltzHall hall = Halls.solo(from[face][0], from[face][1], face, 1, "f");
                int[] opposite = from[(face + 2) % 4];
                int other = Halls.still(hall, opposite[0], opposite[1]);
                Check.same("pass", hall.pass(1), 1);
                Halls.tells(hall, other, Halls.BUMPS, 0);
                Check.same("meet", hall.meet(0, other, 1), -1);
            }
        });
    }

    private static void faces(String figure, int... due) {
        WaltzHall hall = Halls.solo(7, 7, 0, 1, figure);
        for (int face : due) {
            hall.pass(1);
            Halls.tells(hall, 0, Halls.FACE, face);
        }
    }

    private static void goes(String figure, int face, int x, int y) {
        WaltzHall hall = Halls.solo(7, 7, face, 1, figure);
        hall.pass(1);
        Halls.stands(hall, 0, x, y, face);
    }

    private static void goesRound(String figure, int otherX, int otherY, int x, int y) {
        WaltzHall hall = Halls.couple(7, 7, 2, otherX, otherY, figure);
        hall.pass(1);
        Halls.tells(hall, 1, Halls.X, x);
        Halls.tells(hall, 1, Halls.Y, y);
    }

    private static void directions() {
        Check.test("terms: clockwise behind 3 comes 0", () -> faces("t", 1, 2, 3, 0, 1));
        Check.test("terms: the other way, behind 0 comes 3", () -> faces("u", 3, 2, 1, 0, 3));
        Check.test("terms: 0 is up, 1 right, 2 down, 3 left", () -> {
            goes("f", 0, 7, 6);
            goes("f", 1, 8, 7);
            goes("f", 2, 7, 8);
            goes("f", 3, 6, 7);
        });
        Check.test("terms: the next clockwise of the face 3 is up", () -> goes("r", 3, 7, 6));
        Check.test("terms: the next the other way of the face 0 is left", () -> goes("l", 0, 6, 7));
        Check.test("terms: the opposite of the faces 2 and 3 is up and right", () -> {
            goes("b", 2, 7, 6);
            goes("b", 3, 8, 7);
        });
        Check.test("terms: who follows goes round from the left to above, and back", () -> {
            goesRound("t", 6, 7, 7, 6);
            goesRound("u", 7, 6, 6, 7);
        });
        Check.test("terms: a drift's face behind 3 is 0, and behind 0 the other way 3", () -> {
            WaltzHall hall = new WaltzHall();
            Halls.teach(hall, 0, "tttt");
            Check.same("drift(0, 2)", hall.drift(0, 2), 0);
            Halls.teach(hall, 0, "ttttt");
            Check.same("drift(0, 2)", hall.drift(0, 2), 1);
            Halls.teach(hall, 0, "uuuuu");
            Check.same("drift(0, 2)", hall.drift(0, 2), 3);
        });
    }

    private static void dances() {
        Check.test("terms: there are 8 dances, 0 to 7", () -> {
            WaltzHall hall = new WaltzHall();
            Check.same("figure(0, 0)", hall.figure(0, 0), 'f');
            Check.same("figure(7, 0)", hall.figure(7, 0), 't');
            Edges.index(Edges::busy, h -> h.figure(-1, 0), h -> h.figure(8, 0));
        });
        Check.test("terms: a dance has 1 to 24 figures", () -> {
            WaltzHall hall = new WaltzHall();
            Check.same("learn of 1", learns(hall, "f"), 1);
            Check.same("learn of 24", learns(hall, "fblrtusw".repeat(3)), 24);
            Check.same("learn of 0", learns(hall, ""), -1);
            Check.same("learn of 25", learns(hall, "fblrtusw".repeat(3) + "f"), -1);
            Check.isTrue("the 24 figures stay", Halls.danceOf(hall, 4).equals("fblrtusw".repeat(3)));
        });
        Check.test("terms: each letter is a figure, and the bytes beside it are none", () -> {
            WaltzHall hall = new WaltzHall();
            for (int sign = 'a' - 1; sign <= 'z' + 1; sign++) {
                String text = String.valueOf((char) sign);
                Check.same("learn of " + text, learns(hall, text), LETTERS.indexOf(sign) >= 0 ? 1 : -1);
            }
            for (int i = 0; i < LETTERS.length(); i++) {
                char letter = LETTERS.charAt(i);
                Check.same("learn of a great letter", learns(hall, String.valueOf((char) (letter - 32))), -1);
                Check.same("learn of 128 more", learns(hall, String.valueOf((char) (letter + 128))), -1);
            }
        });
        Check.test("terms: behind the last figure comes the first one, in the shortest dance and the longest", () -> {
            WaltzHall one = Halls.solo(7, 7, 0, 1, "t");
            one.pass(1);
            Halls.tells(one, 0, Halls.PLACE, 0);
            one.pass(1);
            Halls.tells(one, 0, Halls.FACE, 2);
            WaltzHall most = Halls.solo(7, 7, 0, 1, "w");
            Edges.fill(most, "t" + "w".repeat(23));
            most.learn(7);
            most.pass(23);
            Halls.tells(most, 0, Halls.PLACE, 23);
            most.pass(1);
            Halls.tells(most, 0, Halls.PLACE, 0);
            Halls.tells(most, 0, Halls.FACE, 1);
            most.pass(1);
            Halls.tells(most, 0, Halls.FACE, 2);
        });
    }

    private static int learns(WaltzHall hall, String text) {
        Edges.fill(hall, text);
        return hall.learn(4);
    }

    private static void tape() {
        Check.test("terms: the tape is empty at first", () -> {
            Check.same("the length of the tape", Edges.tapeLength(new WaltzHall()), 0);
        });
        Check.test("terms: the tape has at most 40 bytes", () -> {
            WaltzHall hall = new WaltzHall();
            Edges.fill(hall, "f".repeat(40));
            Check.same("the length of the tape", Edges.tapeLength(hall), 40);
            Edges.state(EdgeTermsTests::withFullTape, h -> h.feed(0, 0, 0, 0, 0));
        });
    }

    private static WaltzHall withFullTape() {
        WaltzHall hall = new WaltzHall();
        Edges.fill(hall, "f".repeat(40));
        return hall;
    }

    private static void dancers() {
        Check.test("terms: there are at most 8 dancers, in the order of their coming", () -> {
            WaltzHall hall = new WaltzHall();
            for (int i = 0; i < 8; i++) {
                Check.same("come", hall.come(15 - i, 3, 0, 1), i);
            }
            Check.same("at(15, 3)", hall.at(15, 3), 0);
            Check.same("at(8, 3)", hall.at(8, 3), 7);
            Edges.state(Edges::crowd, h -> h.come(1, 1, 0, 1));
        });
        Check.test("terms: each stands on a tile of its own", () -> {
            Edges.state(Edges::busy, h -> h.come(5, 5, 0, 1), h -> h.come(12, 12, 3, 9));
        });
        Check.test("terms: the face is 0 to 3", () -> {
            WaltzHall hall = new WaltzHall();
            Check.same("come", hall.come(1, 1, 0, 1), 0);
            Check.same("come", hall.come(2, 1, 3, 1), 1);
            Edges.argument(Edges::busy, h -> h.come(1, 1, -1, 1), h -> h.come(1, 1, 4, 1));
        });
        Check.test("terms: the spring is 0 to 200, and 100 at first", () -> {
            WaltzHall hall = Edges.crowd();
            Halls.tells(hall, 0, Halls.SPRING, 100);
            Check.same("wind(0, 100)", hall.wind(0, 100), 200);
            Check.same("wind(1, 101)", hall.wind(1, 101), 200);
            Check.same("wind(2, -100)", hall.wind(2, -100), 0);
            Check.same("wind(3, -101)", hall.wind(3, -101), 0);
        });
        Check.test("terms: the cost is 1 to 9", () -> {
            WaltzHall hall = new WaltzHall();
            Check.same("come", hall.come(1, 1, 0, 1), 0);
            Check.same("come", hall.come(2, 1, 0, 9), 1);
            Halls.tells(hall, 0, Halls.COST, 1);
            Halls.tells(hall, 1, Halls.COST, 9);
            Edges.argument(Edges::busy, h -> h.come(1, 1, 0, 0), h -> h.come(1, 1, 0, 10));
        });
        Check.test("terms: there may be four couples, of all eight", () -> {
            WaltzHall hall = new WaltzHall();
            for (int i = 0; i < 8; i++) {
                hall.come(i, 7, 0, 1);
            }
            for (int i = 0; i < 4; i++) {
                Check.same("pair", hall.pair(2 * i + 1, 2 * i), i + 1);
            }
            Check.same("pass", hall.pass(1), 0);
            for (int i = 0; i < 8; i++) {
                Halls.tells(hall, i, Halls.Y, 6);
            }
        });
    }

    private static void winders() {
        Check.test("terms: there are at most 3 winders", () -> {
            WaltzHall hall = withWinders();
            Check.same("count(3)", hall.count(3), 3);
            Edges.state(EdgeTermsTests::withWinders, h -> h.addWinder(1, 1, 1));
        });
        Check.test("terms: winders stand where others may stand, too", () -> {
            WaltzHall hall = withWinders();
            Check.same("come", hall.come(3, 3, 0, 1), 1);
            Halls.winderStands(hall, 0, 3, 3);
            Halls.winderStands(hall, 2, 3, 3);
        });
        Check.test("terms: the strength is 1 to 100", () -> {
            WaltzHall hall = new WaltzHall();
            Check.same("addWinder", hall.addWinder(1, 1, 1), 0);
            Check.same("addWinder", hall.addWinder(1, 1, 100), 1);
            Check.same("winder(0, 2)", hall.winder(0, 2), 1);
            Check.same("winder(1, 2)", hall.winder(1, 2), 100);
            Edges.argument(Edges::busy, h -> h.addWinder(1, 1, 0), h -> h.addWinder(1, 1, 101));
        });
        Check.test("terms: a round of 8 goes one behind the other, again and again", () -> {
            WaltzHall hall = withFullRound();
            for (int turn = 0; turn < 17; turn++) {
                Check.same("winder(0, 4)", hall.winder(0, 4), 7 - turn % 8);
                hall.pass(1);
            }
            Edges.state(EdgeTermsTests::withFullRound, h -> h.call(0, 0), h -> h.call(0, 7));
        });
        Check.test("terms: a round of one goes again and again, too", () -> {
            WaltzHall hall = new WaltzHall();
            Halls.still(hall, 7, 7);
            hall.addWinder(7, 7, 1);
            hall.call(0, 0);
            for (int wound = 1; wound <= 3; wound++) {
                hall.pass(1);
                Check.same("winder(0, 4)", hall.winder(0, 4), 0);
                Check.same("winder(0, 5)", hall.winder(0, 5), wound);
            }
        });
    }

    private static WaltzHall withWinders() {
        WaltzHall hall = new WaltzHall();
        hall.come(9, 9, 0, 1);
        hall.addWinder(3, 3, 10);
        hall.addWinder(9, 9, 20);
        hall.addWinder(3, 3, 30);
        hall.call(2, 0);
        return hall;
    }

    /** All eight, the last one first, with springs of 200. */
    private static WaltzHall withFullRound() {
        WaltzHall hall = Edges.crowd();
        hall.addWinder(0, 0, 1);
        for (int i = 7; i >= 0; i--) {
            hall.dance(i, 3);
            hall.wind(i, 100);
            hall.call(0, i);
        }
        return hall;
    }

    private static void refusals() {
        Check.test("terms: a method that throws changes nothing", () -> {
            Edges.state(Edges::busy, h -> h.feed(1, 2, 3, 4, 5), h -> h.come(12, 12, 0, 1), h -> h.pair(0, 1),
                    h -> h.pair(2, 3), h -> h.part(2));
            Edges.argument(Edges::busy, h -> h.trim(23), h -> h.come(16, 16, 4, 10), h -> h.pair(2, 2),
                    h -> h.wind(3, 201), h -> h.addWinder(16, 16, 101), h -> h.pass(201), h -> h.foresee(3, 201, 0),
                    h -> h.firstToStop(201), h -> h.meet(2, 2, 1), h -> h.meet(2, 3, 201));
            Edges.index(Edges::busy, h -> h.learn(8), h -> h.figure(8, 0), h -> h.figure(3, 1), h -> h.drift(8, 0),
                    h -> h.drift(0, 4), h -> h.dance(5, 0), h -> h.dance(0, 8), h -> h.pair(5, 4), h -> h.part(5),
                    h -> h.wind(5, 1), h -> h.dancer(5, 0), h -> h.dancer(0, 12), h -> h.at(16, 16),
                    h -> h.call(2, 0), h -> h.call(0, 5), h -> h.winder(2, 0), h -> h.winder(0, 6),
                    h -> h.count(9), h -> h.foresee(5, 1, 0), h -> h.foresee(0, 1, 5), h -> h.meet(0, 5, 1));
        });
        Check.test("terms: of several exceptions the first one is thrown", () -> {
            Edges.argument(Edges::busy, h -> h.come(5, 5, 4, 1), h -> h.pair(0, 0));
            Edges.argument(Edges::crowd, h -> h.come(0, 7, 0, 10), h -> h.come(16, 0, 0, 1));
            Edges.argument(EdgeTermsTests::withWinders, h -> h.addWinder(3, 3, 0));
            Edges.index(EdgeTermsTests::withFullRound, h -> h.call(0, 8), h -> h.call(1, 0));
            Edges.index(Edges::busy, h -> h.pair(5, 5), h -> h.pair(0, 5), h -> h.wind(5, 201),
                    h -> h.foresee(5, 201, 0), h -> h.foresee(0, 201, 5), h -> h.meet(5, 5, 201));
        });
    }

    private static void calls() {
        Check.test("terms: the 512th call of an object answers as the first ones do", () -> {
            WaltzHall hall = Halls.solo(7, 0, 0, 1, "f");
            // Five calls made it; bumps come at the beats 1, 4, 7 and so on.
            for (int call = 6; call <= 510; call++) {
                hall.pass(200);
            }
            Check.same("count(7)", hall.count(7), (505 * 200 + 2) / 3);
            Check.same("count(0)", hall.count(0), 505 * 200);
        });
    }
}
