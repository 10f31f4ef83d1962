/** The boundary cases in what dancers do in a beat, and in the promises 17 and 18. */
final class EdgeBeatTests {
    private EdgeBeatTests() {
    }

    static void run() {
        order();
        rests();
        springs();
        figures();
        couples();
        ways();
        bumps();
        dizziness();
        pass();
        count();
    }

    private static void dizzyAndBumps(WaltzHall hall, int dancer, int dizzy, int bumps) {
        Halls.tells(hall, dancer, Halls.DIZZY, dizzy);
        Halls.tells(hall, dancer, Halls.BUMPS, bumps);
    }

    private static void order() {
        Check.test("terms, a beat, 1: of two who would go to one tile the smaller number does", () -> {
            WaltzHall hall = Halls.solo(6, 7, 1, 1, "f");
            hall.come(8, 7, 3, 1);
            hall.dance(1, 7);
            Check.same("pass", hall.pass(1), 2);
            Halls.stands(hall, 0, 7, 7, 1);
            Halls.stands(hall, 1, 8, 7, 3);
            Halls.tells(hall, 0, Halls.FIGURES, 1);
            Halls.tells(hall, 1, Halls.FIGURES, 0);
        });
        Check.test("terms, a beat, 1: the last one, 7, finds what the first one, 0, has left", () -> {
            WaltzHall hall = rowOfEight(1);
            Check.same("pass", hall.pass(1), 0);
            for (int i = 0; i < 8; i++) {
                Halls.tells(hall, i, Halls.X, 15 - i);
            }
        });
        Check.test("terms, a beat, 1: who follows has no turn of its own", () -> {
            WaltzHall hall = Halls.couple(7, 7, 0, 8, 7, "w");
            hall.dance(1, 1);
            hall.pass(1);
            Halls.stands(hall, 1, 8, 7, 1);
            Halls.tells(hall, 1, Halls.FIGURES, 1);
        });
    }

    /** 0 to 7 from the column 14 on to the left, all with f and the face. */
    private static WaltzHall rowOfEight(int face) {
        WaltzHall hall = new WaltzHall();
        Halls.teach(hall, 7, "f");
        for (int i = 0; i < 8; i++) {
            hall.come(14 - i, 7, face, 1);
            hall.dance(i, 7);
        }
        return hall;
    }

    private static void rests() {
        Check.test("terms, a beat, 1: who is dizzy for one more beat still rests, then no more", () -> {
            WaltzHall hall = Halls.solo(7, 0, 0, 1, "ft");
            hall.pass(2);
            Halls.tells(hall, 0, Halls.DIZZY, 1);
            hall.pass(1);
            Halls.tells(hall, 0, Halls.DIZZY, 0);
            Halls.tells(hall, 0, Halls.FACE, 0);
            Halls.tells(hall, 0, Halls.PLACE, 1);
            hall.pass(1);
            Halls.tells(hall, 0, Halls.FACE, 1);
            Halls.tells(hall, 0, Halls.PLACE, 0);
        });
        Check.test("terms, a beat, 1: who leads somebody dizzy rests", () -> restsWithDizzy(0));
        Check.test("terms, a beat, 1: who follows somebody dizzy rests", () -> restsWithDizzy(1));
    }

    /** A couple, of which this one has been dizzy before, both with the dance of t alone. */
    private static void restsWithDizzy(int partner) {
        WaltzHall hall = Halls.solo(7, 0, 0, 1, "f");
        hall.come(8, 0, 1, 1);
        hall.dance(1, 3);
        hall.pass(1);
        dizzyAndBumps(hall, 0, 2, 1);
        dizzyAndBumps(hall, 1, 0, 0);
        Halls.teach(hall, 7, "wt");
        hall.dance(1, 7);
        hall.pair(partner, 1 - partner);
        hall.pass(2);
        for (int i = 0; i < 2; i++) {
            Halls.tells(hall, i, Halls.PLACE, 0);
            Halls.tells(hall, i, Halls.FIGURES, i);
            Halls.tells(hall, i, Halls.SPRING, 100 - i);
        }
        hall.pass(1);
        Halls.tells(hall, partner, Halls.PLACE, 1);
        Halls.tells(hall, 0, Halls.FIGURES, 1);
        Halls.tells(hall, 1, Halls.FIGURES, 2);
    }

    private static void dances(int cost, int spring, boolean does) {
        WaltzHall hall = Halls.solo(7, 7, 0, cost, "fw");
        hall.wind(0, -200);
        hall.wind(0, spring);
        hall.pass(1);
        Halls.stands(hall, 0, 7, does ? 6 : 7, 0);
        Halls.tells(hall, 0, Halls.SPRING, does ? spring - cost : spring);
        Halls.tells(hall, 0, Halls.PLACE, does ? 1 : 0);
        Halls.tells(hall, 0, Halls.FIGURES, does ? 1 : 0);
    }

    private static void coupleDances(int spring, int otherSpring, boolean does) {
        WaltzHall hall = Halls.couple(7, 7, 0, 8, 7, "fw");
        hall.wind(0, spring - 100);
        hall.wind(1, otherSpring - 100);
        hall.pass(1);
        Halls.stands(hall, 0, 7, does ? 6 : 7, 0);
        Halls.stands(hall, 1, 8, does ? 6 : 7, 1);
        Halls.tells(hall, 0, Halls.SPRING, does ? spring - 2 : spring);
        Halls.tells(hall, 1, Halls.SPRING, does ? otherSpring - 3 : otherSpring);
        Halls.tells(hall, 0, Halls.PLACE, does ? 1 : 0);
    }

    private static void springs() {
        Check.test("terms, a beat, 1: a spring of the cost is enough, and is 0 then; of one less it is not", () -> {
            dances(1, 1, true);
            dances(1, 0, false);
            dances(9, 9, true);
            dances(9, 8, false);
            dances(9, 10, true);
            dances(9, 200, true);
        });
        Check.test("terms, a beat, 1: both of a couple need their own cost", () -> {
            coupleDances(2, 3, true);
            coupleDances(1, 3, false);
            coupleDances(2, 2, false);
            coupleDances(1, 2, false);
            coupleDances(0, 200, false);
            coupleDances(200, 0, false);
        });
        Check.test("terms, a beat, 1: who has too little spring does not bump, and leaves nobody dizzy", () -> {
            WaltzHall hall = Halls.solo(7, 7, 1, 5, "f");
            Halls.still(hall, 8, 7);
            hall.wind(0, -96);
            Check.same("pass", hall.pass(1), 0);
            dizzyAndBumps(hall, 0, 0, 0);
            dizzyAndBumps(hall, 1, 0, 0);
        });
        Check.test("terms, a beat, 1: a bump needs the cost, too, and takes nothing", () -> {
            WaltzHall hall = Halls.solo(7, 0, 0, 9, "f");
            hall.wind(0, -91);
            Check.same("pass", hall.pass(1), 1);
            Halls.tells(hall, 0, Halls.SPRING, 9);
            Halls.tells(hall, 0, Halls.FIGURES, 0);
        });
    }

    private static void figures() {
        Check.test("terms, a beat, 1: behind the last figure comes the first one, if it is done and if they bump", () -> {
            WaltzHall done = Halls.solo(7, 7, 0, 1, "wf");
            done.pass(2);
            Halls.tells(done, 0, Halls.PLACE, 0);
            WaltzHall bumped = Halls.solo(7, 0, 0, 1, "wf");
            Check.same("pass", bumped.pass(2), 1);
            Halls.tells(bumped, 0, Halls.PLACE, 0);
        });
        Check.test("terms, a beat, 1: with a bump the figure that comes next is the following one", () -> {
            WaltzHall hall = Halls.solo(7, 0, 0, 1, "fwt");
            hall.pass(1);
            Halls.tells(hall, 0, Halls.PLACE, 1);
        });
        Check.test("terms, a beat, 1: w and s alone are done, with their cost, at the edge, too", () -> {
            for (String figure : new String[] {"w", "s"}) {
                WaltzHall hall = Halls.solo(0, 0, 0, 9, figure);
                Check.same("pass", hall.pass(1), 0);
                Halls.stands(hall, 0, 0, 0, 0);
                Halls.tells(hall, 0, Halls.SPRING, 91);
                Halls.tells(hall, 0, Halls.FIGURES, 1);
            }
        });
        Check.test("terms, a beat, 1: t and u alone turn the face, in a corner with neighbours, too", () -> {
            for (String figure : new String[] {"t", "u"}) {
                WaltzHall hall = Halls.solo(0, 0, 0, 9, figure);
                Halls.still(hall, 1, 0);
                Halls.still(hall, 0, 1);
                Check.same("pass", hall.pass(1), 0);
                Halls.stands(hall, 0, 0, 0, figure.equals("t") ? 1 : 3);
                Halls.tells(hall, 0, Halls.SPRING, 91);
            }
        });
        Check.test("terms, a beat, 1: the place of the one who follows stays, if it is done and if they bump", () -> {
            WaltzHall hall = Halls.couple(7, 1, 0, 8, 1, "f");
            hall.part(0);
            hall.pass(2);
            Halls.tells(hall, 1, Halls.PLACE, 2);
            WaltzHall done = Halls.couple(7, 7, 0, 8, 7, "w");
            done.pass(2);
            Halls.tells(done, 1, Halls.PLACE, 0);
            WaltzHall bumped = Halls.couple(7, 0, 0, 8, 0, "fw");
            Check.same("pass", bumped.pass(1), 2);
            Halls.tells(bumped, 0, Halls.PLACE, 1);
            Halls.tells(bumped, 1, Halls.PLACE, 0);
        });
    }

    private static void turns(String figure, int face, int side, int sideThen, int faceThen) {
        int[] dx = {0, 1, 0, -1};
        int[] dy = {-1, 0, 1, 0};
        WaltzHall hall = Halls.couple(7, 7, face, 7 + dx[side], 7 + dy[side], figure);
        Check.same("pass", hall.pass(1), 0);
        Halls.stands(hall, 0, 7, 7, faceThen);
        Halls.stands(hall, 1, 7 + dx[sideThen], 7 + dy[sideThen], (faceThen + 1) % 4);
    }

    private static void couples() {
        Check.test("terms, a beat, 1: t takes who follows from beside in each direction to the next one clockwise", () -> {
            for (int side = 0; side < 4; side++) {
                for (int face = 0; face < 4; face++) {
                    turns("t", face, side, (side + 1) % 4, (face + 1) % 4);
                }
            }
        });
        Check.test("terms, a beat, 1: u takes who follows the other way", () -> {
            for (int side = 0; side < 4; side++) {
                for (int face = 0; face < 4; face++) {
                    turns("u", face, side, (side + 3) % 4, (face + 3) % 4);
                }
            }
        });
        Check.test("terms, a beat, 1: a couple that turns at the edge bumps where there is no tile, else not", () -> {
            // at the upper edge, who follows at the left or the right
            coupleTurns("t", 7, 0, 6, 0, 2);
            coupleTurns("u", 7, 0, 6, 0, 0);
            coupleTurns("t", 7, 0, 8, 0, 0);
            coupleTurns("u", 7, 0, 8, 0, 2);
            // at the left edge and at the right one, who follows above
            coupleTurns("u", 0, 7, 0, 6, 2);
            coupleTurns("t", 0, 7, 0, 6, 0);
            coupleTurns("t", 15, 7, 15, 6, 2);
            coupleTurns("u", 15, 7, 15, 6, 0);
            // at the lower edge
            coupleTurns("t", 7, 15, 8, 15, 2);
            coupleTurns("u", 7, 15, 8, 15, 0);
        });
        Check.test("terms, a beat, 1: a couple that bumps turns no face", () -> {
            WaltzHall hall = Halls.couple(7, 0, 0, 6, 0, "t");
            hall.pass(1);
            Halls.stands(hall, 0, 7, 0, 0);
            Halls.stands(hall, 1, 6, 0, 1);
        });
        Check.test("terms, a beat, 1: the tiles of both are free for both", () -> {
            String[] all = {"f", "b", "l", "r", "s", "w", "t", "u"};
            for (String figure : all) {
                for (int side = 0; side < 4; side++) {
                    WaltzHall hall = Halls.couple(7, 7, side, 8, 7, figure);
                    Check.same("pass with " + figure, hall.pass(1), 0);
                    Check.same("figures done", hall.count(6), 2);
                }
            }
        });
        Check.test("terms, a beat, 1: s in a corner, with others beside both, bumps nobody", () -> {
            WaltzHall hall = Halls.couple(0, 0, 0, 1, 0, "s");
            Halls.still(hall, 0, 1);
            Halls.still(hall, 1, 1);
            Halls.still(hall, 2, 0);
            Check.same("pass", hall.pass(1), 0);
            Halls.stands(hall, 0, 1, 0, 0);
            Halls.stands(hall, 1, 0, 0, 1);
        });
    }

    private static void coupleTurns(String figure, int x, int y, int otherX, int otherY, int bumps) {
        WaltzHall hall = Halls.couple(x, y, 0, otherX, otherY, figure);
        Check.same("pass with " + figure, hall.pass(1), bumps);
        Check.same("figures done", hall.count(6), bumps == 0 ? 2 : 0);
    }

    /** Where one with the face 1, the last on the floor to the right, gets by each figure. */
    private static void ways() {
        Check.test("terms, a beat, 1: at the edge only the way off the floor is a bump", () -> {
            int[] due = {1, 0, 0, 0};
            String[] figures = {"f", "b", "l", "r"};
            for (int i = 0; i < 4; i++) {
                Check.same("pass with " + figures[i], Halls.solo(15, 7, 1, 1, figures[i]).pass(1), due[i]);
            }
        });
        Check.test("terms, a beat, 1: in a corner two ways are bumps", () -> {
            int[] due = {1, 0, 1, 0};
            String[] figures = {"f", "b", "l", "r"};
            for (int i = 0; i < 4; i++) {
                Check.same("pass with " + figures[i], Halls.solo(0, 0, 0, 1, figures[i]).pass(1), due[i]);
            }
        });
        Check.test("terms, a beat, 1: somebody beside is in the way, somebody at the corner is not", () -> {
            WaltzHall hall = Halls.solo(7, 7, 0, 1, "f");
            Halls.still(hall, 6, 6);
            Halls.still(hall, 8, 6);
            Halls.still(hall, 7, 5);
            Check.same("pass", hall.pass(1), 0);
            Check.same("pass", hall.pass(1), 2);
        });
    }

    private static void bumps() {
        Check.test("terms, a beat, 1: who is alone bumps at the edge alone, with one bump", () -> {
            WaltzHall hall = Halls.solo(15, 15, 2, 1, "f");
            Check.same("pass", hall.pass(1), 1);
            dizzyAndBumps(hall, 0, 2, 1);
        });
        Check.test("terms, a beat, 1: one of both off the floor, or both: two bumps, and none of who is near", () -> {
            int[][] pairs = {{14, 7, 15, 7}, {15, 7, 14, 7}, {15, 7, 15, 8}, {15, 7, 15, 6}};
            for (int[] p : pairs) {
                WaltzHall hall = Halls.couple(p[0], p[1], 1, p[2], p[3], "f");
                Halls.still(hall, 13, 7);
                Halls.still(hall, 14, 8);
                Halls.still(hall, 14, 6);
                Check.same("pass", hall.pass(1), 2);
                Check.same("count(4)", hall.count(4), 2);
                dizzyAndBumps(hall, 0, 2, 1);
                dizzyAndBumps(hall, 1, 2, 1);
                Halls.stands(hall, 0, p[0], p[1], 1);
                Halls.stands(hall, 1, p[2], p[3], 2);
            }
        });
        Check.test("terms, a beat, 1: two in the way are dizzy, each once", () -> {
            WaltzHall hall = Halls.couple(7, 7, 0, 8, 7, "fw");
            Halls.still(hall, 7, 6);
            Halls.still(hall, 8, 6);
            Check.same("pass", hall.pass(1), 4);
            for (int i = 0; i < 4; i++) {
                dizzyAndBumps(hall, i, 2, 1);
            }
        });
        Check.test("terms, a beat, 1: two of one couple in the way are dizzy, each once, and rest", () -> {
            WaltzHall hall = Halls.couple(7, 7, 0, 8, 7, "fw");
            hall.come(7, 6, 0, 1);
            hall.come(8, 6, 0, 1);
            hall.pair(3, 2);
            Check.same("pass", hall.pass(1), 4);
            for (int i = 0; i < 4; i++) {
                dizzyAndBumps(hall, i, 2, 1);
            }
            Halls.tells(hall, 3, Halls.FIGURES, 0);
        });
        Check.test("terms, a beat, 1: one behind another in a couple: only the first one's way counts", () -> {
            WaltzHall hall = Halls.couple(7, 7, 1, 8, 7, "fw");
            Halls.still(hall, 9, 7);
            Check.same("pass", hall.pass(1), 3);
            dizzyAndBumps(hall, 2, 2, 1);
        });
        Check.test("terms, a beat, 1: all eight bump in one beat", () -> {
            WaltzHall hall = rowOfEight(0);
            hall.pass(7);
            Check.same("pass", hall.pass(1), 8);
            Check.same("count(4)", hall.count(4), 8);
        });
        Check.test("terms, a beat, 1: one is bumped into twice in a beat, and has two bumps", () -> {
            WaltzHall hall = Halls.solo(6, 7, 1, 1, "fw");
            hall.come(8, 7, 3, 1);
            hall.dance(1, 7);
            Halls.still(hall, 7, 7);
            Check.same("pass", hall.pass(1), 4);
            dizzyAndBumps(hall, 2, 2, 2);
            dizzyAndBumps(hall, 0, 2, 1);
            dizzyAndBumps(hall, 1, 2, 1);
        });
    }

    private static void dizziness() {
        Check.test("terms, a beat, 3: dizzy for 3 beats, the beat of the bump the first of them", () -> {
            WaltzHall hall = Halls.solo(7, 0, 0, 1, "fb");
            int[] due = {2, 1, 0};
            for (int dizzy : due) {
                hall.pass(1);
                Halls.tells(hall, 0, Halls.DIZZY, dizzy);
                Halls.tells(hall, 0, Halls.Y, 0);
            }
            hall.pass(1);
            Halls.tells(hall, 0, Halls.Y, 1);
            Halls.tells(hall, 0, Halls.DIZZY, 0);
        });
        Check.test("terms, a beat, 1: who is dizzy is so anew, for 3 beats again", () -> {
            for (int waits = 1; waits <= 2; waits++) {
                WaltzHall hall = Halls.solo(7, 7, 1, 1, "fwww");
                Halls.still(hall, 8, 7);
                hall.come(9, 7, 3, 1);
                Halls.teach(hall, 6, "w".repeat(waits) + "fw");
                hall.dance(2, 6);
                hall.pass(waits);
                dizzyAndBumps(hall, 1, 3 - waits, 1);
                hall.pass(1);
                dizzyAndBumps(hall, 1, 2, 2);
                hall.pass(2);
                dizzyAndBumps(hall, 1, 0, 2);
            }
        });
        Check.test("terms, a beat, 3: who is not dizzy has nothing less of it", () -> {
            WaltzHall hall = Halls.solo(7, 7, 0, 1, "w");
            hall.pass(200);
            Halls.tells(hall, 0, Halls.DIZZY, 0);
        });
        Check.test("terms, a beat, 3: who is in the way and spent is dizzy no longer than others", () -> {
            WaltzHall hall = Halls.solo(7, 7, 1, 1, "fw");
            Halls.still(hall, 8, 7);
            hall.pass(3);
            Check.same("count(4)", hall.count(4), 0);
        });
    }

    private static void pass() {
        Check.test("promise 17: beats are 1 to 200", () -> {
            WaltzHall hall = Edges.busy();
            hall.pass(1);
            Check.same("count(0)", hall.count(0), 2);
            hall.pass(200);
            Check.same("count(0)", hall.count(0), 202);
            Edges.argument(Edges::busy, h -> h.pass(0), h -> h.pass(201), h -> h.pass(-1),
                    h -> h.pass(Integer.MIN_VALUE), h -> h.pass(Integer.MAX_VALUE));
        });
        Check.test("promise 17: in an empty hall beats go by", () -> {
            WaltzHall hall = new WaltzHall();
            Check.same("pass", hall.pass(200), 0);
            Check.same("count(0)", hall.count(0), 200);
        });
        Check.test("promise 17: 200 beats are as 200 times one", () -> {
            WaltzHall hall = Edges.busy();
            WaltzHall other = Edges.busy();
            int bumps = 0;
            for (int i = 0; i < 200; i++) {
                bumps += other.pass(1);
            }
            Check.same("pass", hall.pass(200), bumps);
            Check.same("digest", hall.digest(), other.digest());
        });
        Check.test("promise 17: each bump of each dancer is counted", () -> {
            WaltzHall hall = Halls.couple(7, 0, 0, 8, 0, "f");
            // both of the couple, at the beats 1, 4 and so on up to 199
            Check.same("pass", hall.pass(200), 134);
            Halls.tells(hall, 0, Halls.BUMPS, 67);
            Halls.tells(hall, 1, Halls.BUMPS, 67);
        });
    }

    private static void count() {
        Check.test("promise 18: what is 0 to 8", () -> {
            WaltzHall hall = Edges.busy();
            Check.same("count(0)", hall.count(0), 1);
            Check.same("count(8)", hall.count(8), 1);
            Edges.index(Edges::busy, h -> h.count(-1), h -> h.count(9), h -> h.count(Integer.MIN_VALUE));
        });
        Check.test("promise 18: all are 0 in an empty hall", () -> {
            for (int what = 0; what <= 8; what++) {
                Check.same("count(" + what + ")", new WaltzHall().count(what), 0);
            }
        });
        Check.test("promise 18: a full hall", () -> {
            WaltzHall hall = Edges.crowd();
            for (int i = 0; i < 8; i++) {
                hall.wind(i, 100);
            }
            Check.same("count(1)", hall.count(1), 8);
            Check.same("count(5)", hall.count(5), 1600);
            hall.pass(1);
            Check.same("count(6)", hall.count(6), 8);
        });
        Check.test("promise 18: who has just its cost is not counted, who has one less is", () -> {
            WaltzHall hall = new WaltzHall();
            hall.come(7, 7, 0, 9);
            hall.wind(0, -91);
            Check.same("count(8)", hall.count(8), 0);
            hall.wind(0, -1);
            Check.same("count(8)", hall.count(8), 1);
        });
        Check.test("promise 18: who is dizzy for one more beat is counted, behind it no more", () -> {
            WaltzHall hall = Halls.solo(7, 0, 0, 1, "fw");
            hall.pass(2);
            Check.same("count(4)", hall.count(4), 1);
            hall.pass(1);
            Check.same("count(4)", hall.count(4), 0);
        });
    }
}
