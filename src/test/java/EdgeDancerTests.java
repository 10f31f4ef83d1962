/** The boundary cases in the promises 7 to 13. */
final class EdgeDancerTests {
    private EdgeDancerTests() {
    }

    static void run() {
        come();
        dance();
        pair();
        part();
        wind();
        dancer();
        at();
    }

    private static WaltzHall withSeven() {
        WaltzHall hall = new WaltzHall();
        for (int i = 0; i < 7; i++) {
            hall.come(2 * i, 7, 0, 1);
        }
        return hall;
    }

    private static void come() {
        Check.test("promise 7: x and y are 0 to 15", () -> {
            WaltzHall hall = new WaltzHall();
            Check.same("come", hall.come(0, 15, 0, 1), 0);
            Check.same("come", hall.come(15, 0, 0, 1), 1);
            Edges.argument(Edges::busy, h -> h.come(-1, 2, 0, 1), h -> h.come(16, 2, 0, 1),
                    h -> h.come(2, -1, 0, 1), h -> h.come(2, 16, 0, 1), h -> h.come(Integer.MIN_VALUE, 2, 0, 1),
                    h -> h.come(2, Integer.MAX_VALUE, 0, 1));
        });
        Check.test("promise 7: the face is 0 to 3", () -> {
            WaltzHall hall = new WaltzHall();
            hall.come(1, 1, 0, 1);
            hall.come(2, 2, 3, 1);
            Halls.tells(hall, 0, Halls.FACE, 0);
            Halls.tells(hall, 1, Halls.FACE, 3);
            Edges.argument(Edges::busy, h -> h.come(1, 1, -1, 1), h -> h.come(1, 1, 4, 1));
        });
        Check.test("promise 7: the cost is 1 to 9", () -> {
            WaltzHall hall = new WaltzHall();
            Check.same("come", hall.come(1, 1, 0, 1), 0);
            Check.same("come", hall.come(2, 2, 0, 9), 1);
            Edges.argument(Edges::busy, h -> h.come(1, 1, 0, 0), h -> h.come(1, 1, 0, 10),
                    h -> h.come(1, 1, 0, -1));
        });
        Check.test("promise 7: the tile of somebody is taken, the tile beside is free", () -> {
            WaltzHall hall = Edges.busy();
            Check.same("come", hall.come(12, 13, 0, 1), 5);
            Edges.state(Edges::busy, h -> h.come(12, 12, 0, 1), h -> h.come(10, 3, 0, 1));
        });
        Check.test("promise 7: the tile where somebody stood before is free, where one stands now is not", () -> {
            WaltzHall hall = Halls.solo(7, 7, 1, 1, "fw");
            hall.pass(1);
            Check.state(hall, () -> hall.come(8, 7, 0, 1));
            Check.same("come", hall.come(7, 7, 0, 1), 1);
        });
        Check.test("promise 7: with seven another one comes, with eight none", () -> {
            Check.same("come", withSeven().come(1, 1, 0, 1), 7);
            Edges.state(Edges::crowd, h -> h.come(1, 1, 0, 1), h -> h.come(0, 7, 0, 1));
        });
        Check.test("promise 7: a wrong argument is told before the taken tile and the full hall", () -> {
            Edges.argument(Edges::busy, h -> h.come(12, 12, 4, 1), h -> h.come(12, 12, -1, 1),
                    h -> h.come(12, 12, 0, 0), h -> h.come(12, 12, 0, 10));
            Edges.argument(Edges::crowd, h -> h.come(16, 7, 0, 1), h -> h.come(1, -1, 0, 1),
                    h -> h.come(1, 1, 4, 1), h -> h.come(1, 1, 0, 0), h -> h.come(0, 7, 0, 10));
        });
    }

    private static void dance() {
        Check.test("promise 8: the dances are 0 to 7", () -> {
            WaltzHall hall = Edges.busy();
            Check.same("dance(2, 7)", hall.dance(2, 7), 0);
            Check.same("dance(2, 0)", hall.dance(2, 0), 7);
            Edges.index(Edges::busy, h -> h.dance(2, -1), h -> h.dance(2, 8), h -> h.dance(4, Integer.MAX_VALUE));
        });
        Check.test("promise 8: each of the eight dances is chosen, told, and the one before then", () -> {
            WaltzHall hall = Edges.busy();
            for (int dance = 0; dance < 8; dance++) {
                Check.same("dance(2, " + dance + ")", hall.dance(2, dance), Math.max(0, dance - 1));
                Halls.tells(hall, 2, Halls.DANCE, dance);
            }
            Check.same("dance(2, 0)", hall.dance(2, 0), 7);
        });
        Check.test("promise 8: the first dancer and the last one, and none beside them", () -> {
            WaltzHall hall = Edges.busy();
            Check.same("dance(0, 3)", hall.dance(0, 3), 0);
            Check.same("dance(4, 3)", hall.dance(4, 3), 5);
            Edges.index(Edges::busy, h -> h.dance(-1, 3), h -> h.dance(5, 3), h -> h.dance(8, 8));
        });
        Check.test("promise 8: the dance that one dances already begins anew", () -> {
            WaltzHall hall = Halls.solo(7, 7, 0, 1, "wt");
            hall.pass(1);
            Check.same("dance(0, 7)", hall.dance(0, 7), 7);
            Halls.tells(hall, 0, Halls.PLACE, 0);
        });
        Check.test("promise 8: who follows chooses, too, for the time behind", () -> {
            WaltzHall hall = Halls.couple(7, 7, 0, 8, 7, "w");
            Check.same("dance(1, 7)", hall.dance(1, 7), 0);
            hall.pass(1);
            Halls.tells(hall, 1, Halls.DANCE, 7);
            Halls.tells(hall, 1, Halls.PLACE, 0);
        });
    }

    /** 0 to 2 in a row, 3 at a corner of 0 and 2 tiles off 1; 4 and 5 are a couple beside 2. */
    private static WaltzHall neighbours() {
        WaltzHall hall = new WaltzHall();
        hall.come(5, 5, 0, 1);
        hall.come(6, 5, 1, 2);
        hall.come(7, 5, 2, 3);
        hall.come(6, 6, 3, 4);
        hall.come(8, 5, 0, 5);
        hall.come(8, 6, 1, 6);
        hall.pair(4, 5);
        return hall;
    }

    private static void pair() {
        Check.test("promise 9: one tile in one of the directions, not two, and no corner", () -> {
            Check.same("pair(0, 1)", neighbours().pair(0, 1), 2);
            Check.same("pair(1, 0)", neighbours().pair(1, 0), 2);
            Check.same("pair(1, 3)", neighbours().pair(1, 3), 2);
            Check.same("pair(3, 1)", neighbours().pair(3, 1), 2);
            Edges.state(EdgeDancerTests::neighbours, h -> h.pair(0, 2), h -> h.pair(2, 0), h -> h.pair(0, 3),
                    h -> h.pair(3, 0));
        });
        Check.test("promise 9: who leads or follows already is in a couple", () -> {
            Edges.state(EdgeDancerTests::neighbours, h -> h.pair(2, 4), h -> h.pair(4, 2), h -> h.pair(4, 5),
                    h -> h.pair(5, 4), h -> h.pair(0, 4), h -> h.pair(5, 3));
        });
        Check.test("promise 9: the first dancer and the last one, and none beside them", () -> {
            Edges.index(EdgeDancerTests::neighbours, h -> h.pair(-1, 0), h -> h.pair(0, -1), h -> h.pair(6, 5),
                    h -> h.pair(5, 6), h -> h.pair(Integer.MAX_VALUE, Integer.MIN_VALUE));
            WaltzHall hall = neighbours();
            hall.part(4);
            hall.come(8, 7, 0, 1);
            Check.same("pair(6, 5)", hall.pair(6, 5), 1);
        });
        Check.test("promise 9: both the same, alone or in a couple", () -> {
            Edges.argument(EdgeDancerTests::neighbours, h -> h.pair(0, 0), h -> h.pair(4, 4), h -> h.pair(5, 5));
        });
        Check.test("promise 9: no such dancer is told first, then both the same, then the couple", () -> {
            Edges.index(EdgeDancerTests::neighbours, h -> h.pair(6, 6), h -> h.pair(-1, -1), h -> h.pair(4, 6),
                    h -> h.pair(6, 4));
            Edges.argument(EdgeDancerTests::neighbours, h -> h.pair(4, 4));
        });
        Check.test("promise 9: a couple may be dizzy or spent", () -> {
            WaltzHall hall = Halls.solo(7, 0, 0, 9, "f");
            Halls.still(hall, 8, 0);
            hall.pass(1);
            Check.same("pair(0, 1)", hall.pair(0, 1), 1);
        });
    }

    private static void part() {
        Check.test("promise 10: by who leads and by who follows", () -> {
            Check.same("part(0)", Edges.busy().part(0), 1);
            Check.same("part(1)", Edges.busy().part(1), 0);
        });
        Check.test("promise 10: the first dancer and the last one, and none beside them", () -> {
            Edges.index(Edges::busy, h -> h.part(-1), h -> h.part(5), h -> h.part(Integer.MIN_VALUE),
                    h -> h.part(Integer.MAX_VALUE));
            WaltzHall last = Edges.busy();
            last.come(12, 13, 0, 1);
            last.pair(4, 5);
            Check.same("part(5)", last.part(5), 4);
        });
        Check.test("promise 10: who has no couple, or has one no more", () -> {
            Edges.state(Edges::busy, h -> h.part(2), h -> h.part(4));
            Edges.state(EdgeDancerTests::parted, h -> h.part(0), h -> h.part(1));
        });
        Check.test("promise 10: one of two couples stays", () -> {
            WaltzHall hall = neighbours();
            hall.pair(1, 3);
            Check.same("part(3)", hall.part(3), 1);
            Check.same("count(2)", hall.count(2), 1);
            Halls.tells(hall, 4, Halls.PARTNER, 5);
            Halls.tells(hall, 5, Halls.FOLLOWS, 1);
        });
    }

    private static WaltzHall parted() {
        WaltzHall hall = Edges.busy();
        hall.part(0);
        return hall;
    }

    private static void winds(int by, int due) {
        WaltzHall hall = Edges.crowd();
        Check.same("wind(0, " + by + ")", hall.wind(0, by), due);
        Halls.tells(hall, 0, Halls.SPRING, due);
    }

    private static void wind() {
        Check.test("promise 11: the spring is 0 at least", () -> {
            winds(-99, 1);
            winds(-100, 0);
            winds(-101, 0);
            winds(-200, 0);
        });
        Check.test("promise 11: the spring is 200 at most", () -> {
            winds(99, 199);
            winds(100, 200);
            winds(101, 200);
            winds(200, 200);
        });
        Check.test("promise 11: from the empty spring to the full one and back", () -> {
            WaltzHall hall = Edges.crowd();
            hall.wind(7, -200);
            Check.same("wind(7, 200)", hall.wind(7, 200), 200);
            Check.same("wind(7, -200)", hall.wind(7, -200), 0);
            Check.same("wind(7, 0)", hall.wind(7, 0), 0);
        });
        Check.test("promise 11: by is -200 to 200", () -> {
            Edges.argument(Edges::busy, h -> h.wind(2, 201), h -> h.wind(2, -201),
                    h -> h.wind(2, Integer.MAX_VALUE), h -> h.wind(2, Integer.MIN_VALUE));
        });
        Check.test("promise 11: the first dancer and the last one, and none beside them", () -> {
            Check.same("wind(0, 2)", Edges.busy().wind(0, 2), 100);
            Check.same("wind(4, 1)", Edges.busy().wind(4, -99), 0);
            Edges.index(Edges::busy, h -> h.wind(-1, 0), h -> h.wind(5, 0));
        });
        Check.test("promise 11: no such dancer is told before a wrong by", () -> {
            Edges.index(Edges::busy, h -> h.wind(5, 201), h -> h.wind(-1, -201));
        });
    }

    private static void dancer() {
        Check.test("promise 12: what is 0 to 11", () -> {
            Halls.tells(Edges.busy(), 4, 0, 12);
            Halls.tells(Edges.busy(), 2, 11, 1);
            Edges.index(Edges::busy, h -> h.dancer(0, -1), h -> h.dancer(0, 12), h -> h.dancer(4, 12));
        });
        Check.test("promise 12: the first dancer and the last one, and none beside them", () -> {
            Halls.tells(Edges.busy(), 0, Halls.COST, 2);
            Halls.tells(Edges.busy(), 4, Halls.COST, 1);
            Edges.index(Edges::busy, h -> h.dancer(-1, 0), h -> h.dancer(5, 0), h -> h.dancer(7, 0));
            Halls.tells(Edges.crowd(), 7, Halls.X, 14);
            Edges.index(Edges::crowd, h -> h.dancer(8, 0), h -> h.dancer(-1, 11));
        });
        Check.test("promise 12: -1 if there is no other one, and 0 for the dancer 0", () -> {
            Halls.tells(Edges.busy(), 2, Halls.PARTNER, -1);
            Halls.tells(Edges.busy(), 1, Halls.PARTNER, 0);
        });
        Check.test("promise 12: 1 if it follows, 0 if it leads, and if it is alone", () -> {
            Halls.tells(Edges.busy(), 1, Halls.FOLLOWS, 1);
            Halls.tells(Edges.busy(), 0, Halls.FOLLOWS, 0);
            Halls.tells(Edges.busy(), 2, Halls.FOLLOWS, 0);
        });
    }

    private static void at() {
        Check.test("promise 13: x and y are 0 to 15", () -> {
            WaltzHall hall = new WaltzHall();
            hall.come(0, 15, 0, 1);
            Check.same("at(0, 15)", hall.at(0, 15), 0);
            Check.same("at(15, 0)", hall.at(15, 0), -1);
            Check.same("at(0, 0)", hall.at(0, 0), -1);
            Check.same("at(15, 15)", hall.at(15, 15), -1);
            Edges.index(Edges::busy, h -> h.at(-1, 0), h -> h.at(16, 0), h -> h.at(0, -1), h -> h.at(0, 16),
                    h -> h.at(Integer.MIN_VALUE, 0), h -> h.at(0, Integer.MAX_VALUE));
        });
        Check.test("promise 13: nobody anywhere on the empty floor, eight on the full one", () -> {
            WaltzHall empty = new WaltzHall();
            WaltzHall full = Edges.crowd();
            for (int x = 0; x < 16; x++) {
                Check.same("at", empty.at(x, 7), -1);
                Check.same("at", full.at(x, 7), x % 2 == 0 ? x / 2 : -1);
            }
        });
        Check.test("promise 13: a couple that has swapped is found at the other places", () -> {
            WaltzHall hall = Halls.couple(7, 7, 0, 8, 7, "s");
            hall.pass(1);
            Check.same("at(7, 7)", hall.at(7, 7), 1);
            Check.same("at(8, 7)", hall.at(8, 7), 0);
        });
    }
}
