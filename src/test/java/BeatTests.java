/** Promises 17 and 18, and what dancers do in a beat. */
final class BeatTests {
    private BeatTests() {
    }

    static void run() {
        pass();
        alone();
        couples();
        bumps();
        crowds();
        springs();
        count();
    }

    private static void pass() {
        Check.test("promise 17: 1 to 200 beats", () -> {
            WaltzHall hall = Halls.solo(7, 7, 0, 1, "w");
            Check.argument(hall, () -> hall.pass(0));
            Check.argument(hall, () -> hall.pass(201));
            Check.argument(hall, () -> hall.pass(-1));
            Check.argument(hall, () -> hall.pass(Integer.MAX_VALUE));
            Check.argument(hall, () -> hall.pass(Integer.MIN_VALUE));
            Check.same("pass", hall.pass(1), 0);
            Check.same("count(0)", hall.count(0), 1);
            Check.same("pass", hall.pass(200), 0);
            Check.same("count(0)", hall.count(0), 201);
        });
        Check.test("promise 17: the bumps of these beats alone are told", () -> {
            WaltzHall hall = Halls.solo(7, 0, 0, 1, "f");
            // A bump at the beats 1, 4, 7 and 10.
            Check.same("pass(1)", hall.pass(1), 1);
            Check.same("pass(1)", hall.pass(1), 0);
            Check.same("pass(1)", hall.pass(1), 0);
            Check.same("pass(1)", hall.pass(1), 1);
            Check.same("pass(6)", hall.pass(6), 2);
            Check.same("count(7)", hall.count(7), 4);
        });
        Check.test("promise 17: an empty hall", () -> {
            WaltzHall hall = new WaltzHall();
            hall.addWinder(3, 3, 3);
            Check.same("pass", hall.pass(200), 0);
            Halls.winderStands(hall, 0, 3, 3);
        });
    }

    private static void walks(String figure, int face, int dx, int dy) {
        WaltzHall hall = Halls.solo(7, 7, face, 4, figure);
        Check.same("pass", hall.pass(1), 0);
        Halls.stands(hall, 0, 7 + dx, 7 + dy, face);
        Check.same("at", hall.at(7, 7), -1);
        Halls.tells(hall, 0, Halls.SPRING, 96);
        Halls.tells(hall, 0, Halls.FIGURES, 1);
        Halls.tells(hall, 0, Halls.BUMPS, 0);
    }

    private static void stays(String figure, int face, int faceThen) {
        WaltzHall hall = Halls.solo(7, 7, face, 4, figure);
        Check.same("pass", hall.pass(1), 0);
        Halls.stands(hall, 0, 7, 7, faceThen);
        Halls.tells(hall, 0, Halls.SPRING, 96);
        Halls.tells(hall, 0, Halls.FIGURES, 1);
    }

    private static void alone() {
        Check.test("promise 17: f, b, l and r with every face", () -> {
            int[] dx = {0, 1, 0, -1};
            int[] dy = {-1, 0, 1, 0};
            for (int face = 0; face < 4; face++) {
                walks("f", face, dx[face], dy[face]);
                walks("r", face, dx[(face + 1) % 4], dy[(face + 1) % 4]);
                walks("b", face, dx[(face + 2) % 4], dy[(face + 2) % 4]);
                walks("l", face, dx[(face + 3) % 4], dy[(face + 3) % 4]);
            }
        });
        Check.test("promise 17: t, u, s and w alone", () -> {
            for (int face = 0; face < 4; face++) {
                stays("t", face, (face + 1) % 4);
                stays("u", face, (face + 3) % 4);
                stays("s", face, face);
                stays("w", face, face);
            }
        });
        Check.test("promise 17: behind the last figure comes the first one", () -> {
            WaltzHall hall = Halls.solo(7, 7, 0, 1, "frw");
            int[] places = {1, 2, 0, 1, 2, 0};
            for (int place : places) {
                hall.pass(1);
                Halls.tells(hall, 0, Halls.PLACE, place);
            }
            Halls.stands(hall, 0, 9, 5, 0);
            Halls.tells(hall, 0, Halls.FIGURES, 6);
        });
        Check.test("promise 17: a dance of 24 figures", () -> {
            WaltzHall hall = Halls.solo(7, 7, 0, 1, "w");
            hall.feed(0x77777777, 0x77777777, 0x77777777, 0x77777777, 0x77777777);
            hall.feed(0x77777766, 0, 0, 0, 0);
            hall.trim(24);
            hall.learn(7);
            hall.pass(23);
            Halls.stands(hall, 0, 7, 7, 0);
            Halls.tells(hall, 0, Halls.PLACE, 23);
            hall.pass(1);
            Halls.stands(hall, 0, 7, 6, 0);
            Halls.tells(hall, 0, Halls.PLACE, 0);
        });
    }

    /** A couple, the follower one tile to the right, after one beat. */
    private static void coupleGoes(String figure, int face, int x, int y, int otherX, int otherY, int quarters) {
        WaltzHall hall = Halls.couple(7, 7, face, 8, 7, figure);
        Check.same("pass", hall.pass(1), 0);
        Halls.stands(hall, 0, x, y, (face + quarters) % 4);
        Halls.stands(hall, 1, otherX, otherY, (face + 1 + quarters) % 4);
        Halls.tells(hall, 0, Halls.SPRING, 98);
        Halls.tells(hall, 1, Halls.SPRING, 97);
        Halls.tells(hall, 0, Halls.FIGURES, 1);
        Halls.tells(hall, 1, Halls.FIGURES, 1);
        Halls.tells(hall, 0, Halls.BUMPS, 0);
        Halls.tells(hall, 1, Halls.BUMPS, 0);
    }

    private static void couples() {
        Check.test("promise 17: both of a couple go by the face of who leads", () -> {
            coupleGoes("f", 0, 7, 6, 8, 6, 0);
            coupleGoes("f", 1, 8, 7, 9, 7, 0);
            coupleGoes("f", 2, 7, 8, 8, 8, 0);
            coupleGoes("f", 3, 6, 7, 7, 7, 0);
            coupleGoes("b", 0, 7, 8, 8, 8, 0);
            coupleGoes("b", 3, 8, 7, 9, 7, 0);
            coupleGoes("l", 0, 6, 7, 7, 7, 0);
            coupleGoes("l", 2, 8, 7, 9, 7, 0);
            coupleGoes("r", 0, 8, 7, 9, 7, 0);
            coupleGoes("r", 1, 7, 8, 8, 8, 0);
        });
        Check.test("promise 17: a couple swaps places, and rests", () -> {
            for (int face = 0; face < 4; face++) {
                coupleGoes("s", face, 8, 7, 7, 7, 0);
                coupleGoes("w", face, 7, 7, 8, 7, 0);
            }
        });
        Check.test("promise 17: who follows goes round who leads", () -> {
            for (int face = 0; face < 4; face++) {
                coupleGoes("t", face, 7, 7, 7, 8, 1);
                coupleGoes("u", face, 7, 7, 7, 6, 3);
            }
            int[][] clockwise = {{7, 8}, {6, 7}, {7, 6}, {8, 7}, {7, 8}};
            WaltzHall hall = Halls.couple(7, 7, 0, 8, 7, "t");
            WaltzHall other = Halls.couple(7, 7, 0, 8, 7, "u");
            for (int i = 0; i < 5; i++) {
                hall.pass(1);
                Halls.stands(hall, 1, clockwise[i][0], clockwise[i][1], (i + 2) % 4);
                Halls.stands(hall, 0, 7, 7, (i + 1) % 4);
            }
            for (int i = 0; i < 4; i++) {
                other.pass(1);
                int step = i == 3 ? 3 : 2 - i;
                Halls.tells(other, 1, Halls.X, clockwise[step][0]);
                Halls.tells(other, 1, Halls.Y, clockwise[step][1]);
            }
        });
        Check.test("promise 17: the place of who follows stays, and its dance is not danced", () -> {
            WaltzHall hall = Halls.couple(7, 7, 0, 8, 7, "wf");
            hall.pass(3);
            Halls.tells(hall, 0, Halls.PLACE, 1);
            Halls.tells(hall, 1, Halls.PLACE, 0);
            Halls.stands(hall, 1, 8, 6, 1);
        });
        Check.test("promise 17: who leads may have the greater number, and has its turn by it", () -> {
            WaltzHall hall = new WaltzHall();
            hall.come(7, 7, 1, 1);
            hall.come(8, 8, 0, 1);
            hall.come(7, 8, 0, 1);
            Halls.teach(hall, 7, "f");
            hall.dance(1, 7);
            hall.dance(2, 7);
            hall.pair(2, 0);
            // 1 goes up to 8, 7 before the couple does; the couple goes up with the face of 2
            Check.same("pass", hall.pass(1), 0);
            Halls.stands(hall, 0, 7, 6, 1);
            Halls.stands(hall, 2, 7, 7, 0);
            Halls.stands(hall, 1, 8, 7, 0);
        });
        Check.test("promise 17: behind the parting each dances alone again", () -> {
            WaltzHall hall = Halls.couple(7, 7, 0, 8, 7, "f");
            hall.pass(1);
            hall.part(0);
            hall.pass(1);
            // 1 has the dance 0 from its place 0 on, with the face 1
            Halls.stands(hall, 0, 7, 5, 0);
            Halls.stands(hall, 1, 9, 6, 1);
        });
    }

    private static void isDizzy(WaltzHall hall, int dancer, int dizzy, int bumps) {
        Halls.tells(hall, dancer, Halls.DIZZY, dizzy);
        Halls.tells(hall, dancer, Halls.BUMPS, bumps);
    }

    private static void bumps() {
        Check.test("promise 17: a bump at each edge of the floor", () -> {
            int[][] edges = {{7, 0}, {15, 7}, {7, 15}, {0, 7}};
            for (int face = 0; face < 4; face++) {
                WaltzHall hall = Halls.solo(edges[face][0], edges[face][1], face, 5, "ftw");
                Check.same("pass", hall.pass(1), 1);
                Halls.stands(hall, 0, edges[face][0], edges[face][1], face);
                isDizzy(hall, 0, 2, 1);
                Halls.tells(hall, 0, Halls.SPRING, 100);
                Halls.tells(hall, 0, Halls.FIGURES, 0);
                Halls.tells(hall, 0, Halls.PLACE, 1);
            }
        });
        Check.test("promise 17: who is dizzy rests, and the figure stays", () -> {
            WaltzHall hall = Halls.solo(7, 0, 0, 5, "fbw");
            hall.pass(1);
            for (int dizzy = 1; dizzy >= 0; dizzy--) {
                Check.same("pass", hall.pass(1), 0);
                isDizzy(hall, 0, dizzy, 1);
                Halls.tells(hall, 0, Halls.PLACE, 1);
                Halls.tells(hall, 0, Halls.SPRING, 100);
                Halls.tells(hall, 0, Halls.Y, 0);
            }
            hall.pass(1);
            Halls.tells(hall, 0, Halls.Y, 1);
            Halls.tells(hall, 0, Halls.SPRING, 95);
            isDizzy(hall, 0, 0, 1);
        });
        Check.test("promise 17: who is in the way is dizzy, too, and rests in this beat, if its turn is to come", () -> {
            WaltzHall hall = Halls.solo(7, 7, 1, 1, "f");
            hall.come(8, 7, 0, 1);
            hall.dance(1, 7);
            Check.same("pass", hall.pass(1), 2);
            isDizzy(hall, 0, 2, 1);
            isDizzy(hall, 1, 2, 1);
            Halls.stands(hall, 1, 8, 7, 0);
            Halls.tells(hall, 1, Halls.PLACE, 0);
            Halls.tells(hall, 1, Halls.FIGURES, 0);
            Halls.tells(hall, 1, Halls.SPRING, 100);
        });
        Check.test("promise 17: who is in the way and had its turn has danced", () -> {
            WaltzHall hall = new WaltzHall();
            hall.come(8, 8, 0, 1);
            hall.come(7, 7, 1, 1);
            Halls.teach(hall, 7, "f");
            hall.dance(0, 7);
            hall.dance(1, 7);
            Check.same("pass", hall.pass(1), 2);
            Halls.stands(hall, 0, 8, 7, 0);
            Halls.tells(hall, 0, Halls.FIGURES, 1);
            isDizzy(hall, 0, 2, 1);
            isDizzy(hall, 1, 2, 1);
        });
        Check.test("promise 17: a tile that is left in this beat is free for those behind, not for those before", () -> {
            WaltzHall hall = Halls.solo(7, 7, 1, 1, "f");
            hall.come(6, 7, 1, 1);
            hall.dance(1, 7);
            Check.same("pass", hall.pass(1), 0);
            Halls.stands(hall, 0, 8, 7, 1);
            Halls.stands(hall, 1, 7, 7, 1);
            WaltzHall other = Halls.solo(6, 7, 1, 1, "f");
            other.come(7, 7, 1, 1);
            other.dance(1, 7);
            Check.same("pass", other.pass(1), 2);
            Halls.stands(other, 0, 6, 7, 1);
            Halls.stands(other, 1, 7, 7, 1);
        });
        Check.test("promise 17: dizzy anew", () -> {
            WaltzHall hall = Halls.solo(7, 7, 1, 1, "fw");
            Halls.still(hall, 8, 7);
            hall.come(9, 7, 3, 1);
            Halls.teach(hall, 6, "wf");
            hall.dance(2, 6);
            Check.same("pass", hall.pass(1), 2);
            isDizzy(hall, 1, 2, 1);
            Check.same("pass", hall.pass(1), 2);
            isDizzy(hall, 0, 1, 1);
            isDizzy(hall, 1, 2, 2);
            isDizzy(hall, 2, 2, 1);
            hall.pass(1);
            isDizzy(hall, 0, 0, 1);
            isDizzy(hall, 1, 1, 2);
        });
        Check.test("promise 17: who has no spring can be bumped into, and is dizzy", () -> {
            WaltzHall hall = Halls.solo(7, 7, 1, 1, "fw");
            Halls.still(hall, 8, 7);
            hall.pass(1);
            isDizzy(hall, 1, 2, 1);
            Check.same("count(4)", hall.count(4), 2);
        });
    }

    private static void crowds() {
        Check.test("promise 17: a couple bumps at the edge by one of both", () -> {
            WaltzHall hall = Halls.couple(14, 7, 1, 15, 7, "f");
            Check.same("pass", hall.pass(1), 2);
            isDizzy(hall, 0, 2, 1);
            isDizzy(hall, 1, 2, 1);
            Halls.stands(hall, 0, 14, 7, 1);
            Halls.stands(hall, 1, 15, 7, 2);
            Halls.tells(hall, 0, Halls.SPRING, 100);
            Halls.tells(hall, 1, Halls.SPRING, 100);
            Halls.tells(hall, 1, Halls.FIGURES, 0);
            WaltzHall other = Halls.couple(15, 7, 1, 14, 7, "f");
            Check.same("pass", other.pass(1), 2);
            WaltzHall both = Halls.couple(15, 7, 1, 15, 8, "f");
            Check.same("pass", both.pass(1), 2);
        });
        Check.test("promise 17: two in the way of a couple", () -> {
            WaltzHall hall = Halls.couple(7, 7, 0, 8, 7, "fw");
            Halls.still(hall, 8, 6);
            Halls.still(hall, 7, 6);
            Check.same("pass", hall.pass(1), 4);
            for (int i = 0; i < 4; i++) {
                isDizzy(hall, i, 2, 1);
            }
            Halls.tells(hall, 0, Halls.PLACE, 1);
            Check.same("count(7)", hall.count(7), 4);
        });
        Check.test("promise 17: one in the way of a couple", () -> {
            WaltzHall first = Halls.couple(7, 7, 0, 8, 7, "fw");
            Halls.still(first, 7, 6);
            Check.same("pass", first.pass(1), 3);
            Halls.stands(first, 1, 8, 7, 1);
            WaltzHall second = Halls.couple(7, 7, 0, 8, 7, "fw");
            Halls.still(second, 8, 6);
            Check.same("pass", second.pass(1), 3);
            Halls.stands(second, 0, 7, 7, 0);
            WaltzHall ahead = Halls.couple(7, 7, 1, 8, 7, "fw");
            Halls.still(ahead, 9, 7);
            Check.same("pass", ahead.pass(1), 3);
        });
        Check.test("promise 17: who follows would go round off the floor, or to where somebody stands", () -> {
            WaltzHall hall = Halls.couple(0, 7, 0, 0, 6, "uwt");
            Halls.still(hall, 1, 7);
            Check.same("pass", hall.pass(1), 2);
            Halls.stands(hall, 0, 0, 7, 0);
            Halls.stands(hall, 1, 0, 6, 1);
            Halls.tells(hall, 2, Halls.BUMPS, 0);
            hall.pass(3);
            Check.same("pass", hall.pass(1), 3);
            Halls.stands(hall, 0, 0, 7, 0);
            Halls.stands(hall, 1, 0, 6, 1);
            isDizzy(hall, 2, 2, 1);
        });
        Check.test("promise 17: half of a couple in the way: the other half rests, but is not dizzy", () -> {
            WaltzHall hall = Halls.solo(7, 7, 1, 1, "fw");
            hall.come(8, 7, 0, 1);
            hall.come(9, 7, 0, 1);
            hall.pair(2, 1);
            Check.same("pass", hall.pass(1), 2);
            isDizzy(hall, 1, 2, 1);
            isDizzy(hall, 2, 0, 0);
            for (int i = 0; i < 2; i++) {
                Halls.tells(hall, 2, Halls.PLACE, 0);
                Halls.tells(hall, 2, Halls.FIGURES, 0);
                hall.pass(1);
            }
            Halls.tells(hall, 2, Halls.FIGURES, 0);
            hall.pass(1);
            Halls.tells(hall, 2, Halls.FIGURES, 1);
            Halls.tells(hall, 1, Halls.FIGURES, 1);
        });
        Check.test("promise 17: who leads is dizzy and who follows is not", () -> {
            WaltzHall hall = Halls.solo(7, 7, 1, 1, "fw");
            hall.come(8, 7, 0, 1);
            hall.come(9, 7, 0, 1);
            hall.pair(1, 2);
            Check.same("pass", hall.pass(1), 2);
            isDizzy(hall, 1, 2, 1);
            isDizzy(hall, 2, 0, 0);
            Halls.tells(hall, 1, Halls.FIGURES, 0);
            Halls.tells(hall, 2, Halls.FIGURES, 0);
        });
        Check.test("promise 17: who goes ahead in a couple is not in the way of the other one", () -> {
            WaltzHall hall = Halls.couple(7, 7, 1, 8, 7, "fb");
            Check.same("pass", hall.pass(2), 0);
            Halls.stands(hall, 0, 7, 7, 1);
            Halls.stands(hall, 1, 8, 7, 2);
        });
        Check.test("promise 17: a couple in a corner rests, swaps and never bumps by it", () -> {
            WaltzHall hall = Halls.couple(0, 0, 3, 0, 1, "sw");
            Check.same("pass", hall.pass(20), 0);
            Halls.tells(hall, 1, Halls.FIGURES, 20);
        });
    }

    private static void springs() {
        Check.test("promise 17: the cost may take all, and then it rests", () -> {
            WaltzHall hall = Halls.solo(7, 7, 0, 9, "wt");
            hall.wind(0, -82);
            hall.pass(1);
            Halls.tells(hall, 0, Halls.SPRING, 9);
            hall.pass(1);
            Halls.tells(hall, 0, Halls.SPRING, 0);
            hall.pass(5);
            Halls.tells(hall, 0, Halls.SPRING, 0);
            Halls.tells(hall, 0, Halls.PLACE, 0);
            Halls.tells(hall, 0, Halls.FIGURES, 2);
            hall.wind(0, 8);
            hall.pass(1);
            Halls.tells(hall, 0, Halls.SPRING, 8);
            hall.wind(0, 1);
            hall.pass(1);
            Halls.tells(hall, 0, Halls.SPRING, 0);
        });
        Check.test("promise 17: without spring nobody bumps", () -> {
            WaltzHall hall = Halls.solo(7, 0, 0, 9, "f");
            hall.wind(0, -92);
            Check.same("pass", hall.pass(3), 0);
            Halls.tells(hall, 0, Halls.BUMPS, 0);
        });
        Check.test("promise 17: a partner without spring has both rest", () -> {
            for (int spent = 0; spent < 2; spent++) {
                WaltzHall hall = Halls.couple(7, 7, 0, 8, 7, "f");
                hall.wind(spent, -200);
                hall.wind(spent, spent == 0 ? 1 : 2);
                Check.same("pass", hall.pass(1), 0);
                Halls.stands(hall, 0, 7, 7, 0);
                Halls.tells(hall, 1 - spent, Halls.SPRING, 100);
                Halls.tells(hall, 0, Halls.PLACE, 0);
                hall.wind(spent, 1);
                hall.pass(1);
                Halls.stands(hall, 0, 7, 6, 0);
                Halls.tells(hall, spent, Halls.SPRING, 0);
            }
        });
    }

    private static void counts(WaltzHall hall, int... due) {
        for (int what = 0; what < due.length; what++) {
            Check.same("count(" + what + ")", hall.count(what), due[what]);
        }
    }

    private static void count() {
        Check.test("promise 18: all nine kinds", () -> {
            WaltzHall hall = new WaltzHall();
            hall.come(7, 7, 0, 5);
            hall.come(8, 7, 0, 4);
            hall.come(0, 0, 0, 3);
            hall.come(0, 15, 3, 1);
            hall.pair(0, 1);
            hall.addWinder(0, 0, 1);
            hall.addWinder(0, 0, 1);
            hall.dance(2, 3);
            hall.wind(2, -98);
            counts(hall, 0, 4, 1, 2, 0, 302, 0, 0, 1);
            hall.pass(1);
            // 0 and 1 go up, 2 has too little, 3 bumps
            counts(hall, 1, 4, 1, 2, 1, 293, 2, 1, 1);
            hall.pass(1);
            counts(hall, 2, 4, 1, 2, 1, 284, 4, 1, 1);
            hall.pass(1);
            counts(hall, 3, 4, 1, 2, 0, 275, 6, 1, 1);
            hall.wind(2, 1);
            hall.wind(0, -200);
            hall.wind(1, -200);
            // 2 has the spring 3 now, which is not less than its cost
            counts(hall, 3, 4, 1, 2, 0, 103, 6, 1, 2);
            hall.part(1);
            counts(hall, 3, 4, 0, 2, 0, 103, 6, 1, 2);
        });
        Check.test("promise 18: no such kind", () -> {
            WaltzHall hall = new WaltzHall();
            Check.index(hall, () -> hall.count(9));
            Check.index(hall, () -> hall.count(-1));
            Check.index(hall, () -> hall.count(Integer.MAX_VALUE));
            Check.index(hall, () -> hall.count(Integer.MIN_VALUE));
        });
    }
}
