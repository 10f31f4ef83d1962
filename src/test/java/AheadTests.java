/** Promises 19 to 23. */
final class AheadTests {
    private AheadTests() {
    }

    static void run() {
        foresee();
        firstToStop();
        meet();
        tension();
        digest();
    }

    private static void foresee() {
        Check.test("promise 19: all five kinds, and nothing is changed", () -> {
            WaltzHall hall = Halls.solo(3, 1, 0, 2, "ft");
            // up, turn, right, turn, down, turn, left, turn: at the beginning again behind 8
            int[][] due = {{3, 0, 0, 98, 0}, {3, 0, 1, 96, 0}, {4, 0, 1, 94, 0}, {4, 0, 2, 92, 0}, {4, 1, 2, 90, 0}};
            long before = hall.digest();
            for (int beats = 1; beats <= 5; beats++) {
                for (int what = 0; what < 5; what++) {
                    Check.same("foresee(0, " + beats + ", " + what + ")", hall.foresee(0, beats, what),
                            due[beats - 1][what]);
                }
            }
            Check.same("foresee(0, 200, 3)", hall.foresee(0, 200, 3), 0);
            Check.same("digest", hall.digest(), before);
        });
        Check.test("promise 19: the bumps in these beats alone", () -> {
            WaltzHall hall = Halls.solo(7, 0, 0, 1, "f");
            hall.pass(1);
            Check.same("foresee(0, 2, 4)", hall.foresee(0, 2, 4), 0);
            Check.same("foresee(0, 3, 4)", hall.foresee(0, 3, 4), 1);
            Check.same("foresee(0, 200, 4)", hall.foresee(0, 200, 4), 66);
            Halls.tells(hall, 0, Halls.BUMPS, 1);
        });
        Check.test("promise 19: with couples, winders and who is in the way", () -> {
            WaltzHall hall = Halls.couple(7, 7, 0, 8, 7, "t");
            hall.addWinder(9, 7, 50);
            hall.call(0, 1);
            Halls.still(hall, 6, 7);
            // the follower goes to 7, 8, then would go to 6, 7
            Check.same("foresee(1, 1, 1)", hall.foresee(1, 1, 1), 8);
            Check.same("foresee(2, 1, 4)", hall.foresee(2, 1, 4), 0);
            Check.same("foresee(2, 2, 4)", hall.foresee(2, 2, 4), 1);
            Check.same("foresee(1, 2, 3)", hall.foresee(1, 2, 3), 97);
            Check.same("foresee(1, 3, 3)", hall.foresee(1, 3, 3), 147);
            Halls.winderStands(hall, 0, 9, 7);
            Check.same("foresee again", hall.foresee(1, 3, 3), 147);
        });
        Check.test("promise 19: who comes, pairs and parts between two looks", () -> {
            WaltzHall hall = Halls.solo(7, 7, 1, 1, "f");
            Check.same("foresee", hall.foresee(0, 3, 0), 10);
            hall.come(8, 7, 0, 1);
            hall.dance(1, 3);
            Check.same("foresee", hall.foresee(0, 3, 4), 1);
            hall.pair(0, 1);
            Check.same("foresee", hall.foresee(1, 3, 0), 11);
            hall.part(0);
            Check.same("foresee", hall.foresee(1, 3, 0), 8);
            hall.addWinder(8, 7, 7);
            hall.call(0, 1);
            // dizzy for all three beats, by the bump of 0, it spends nothing
            Check.same("foresee", hall.foresee(1, 3, 3), 121);
        });
        Check.test("promise 19: who dances another dance between two looks", () -> {
            WaltzHall hall = Halls.solo(7, 7, 1, 1, "f");
            Check.same("foresee", hall.foresee(0, 3, 0), 10);
            hall.dance(0, 3);
            Check.same("foresee", hall.foresee(0, 3, 0), 7);
            Halls.teach(hall, 3, "wb");
            Check.same("foresee", hall.foresee(0, 4, 0), 5);
        });
        Check.test("promise 19: no such dancer or kind, then no such beats", () -> {
            WaltzHall hall = new WaltzHall();
            Check.index(hall, () -> hall.foresee(0, 1, 0));
            hall.come(3, 3, 0, 1);
            Check.index(hall, () -> hall.foresee(1, 0, 0));
            Check.index(hall, () -> hall.foresee(-1, 1, 0));
            Check.index(hall, () -> hall.foresee(0, 1, 5));
            Check.index(hall, () -> hall.foresee(0, 1, -1));
            Check.index(hall, () -> hall.foresee(0, 0, 5));
            Check.index(hall, () -> hall.foresee(0, 201, -1));
            Check.argument(hall, () -> hall.foresee(0, 0, 0));
            Check.argument(hall, () -> hall.foresee(0, 201, 4));
            Check.argument(hall, () -> hall.foresee(0, Integer.MAX_VALUE, 4));
            Check.argument(hall, () -> hall.foresee(0, Integer.MIN_VALUE, 4));
        });
    }

    private static void firstToStop() {
        Check.test("promise 20: the first one, and of several the smallest number", () -> {
            WaltzHall hall = new WaltzHall();
            int[] costs = {1, 5, 9, 9};
            for (int i = 0; i < 4; i++) {
                hall.come(4 * i, 7, 0, costs[i]);
                hall.dance(i, 3);
            }
            // 100 lasts for 11 beats of 9, behind which 1 is left
            long before = hall.digest();
            Check.same("firstToStop(10)", hall.firstToStop(10), -1);
            Check.same("firstToStop(11)", hall.firstToStop(11), 2);
            Check.same("firstToStop(200)", hall.firstToStop(200), 2);
            Check.same("digest", hall.digest(), before);
            hall.wind(1, -60);
            Check.same("firstToStop(8)", hall.firstToStop(8), 1);
            Check.same("firstToStop(7)", hall.firstToStop(7), -1);
            hall.wind(1, 10);
            hall.wind(2, 8);
            hall.wind(3, -1);
            // 1 lasts for 10 beats, 2 for 12, 3 for 11
            Check.same("firstToStop(200)", hall.firstToStop(200), 1);
            hall.wind(1, 60);
            Check.same("firstToStop(200)", hall.firstToStop(200), 3);
        });
        Check.test("promise 20: those who are so now never count", () -> {
            WaltzHall hall = new WaltzHall();
            hall.come(2, 2, 0, 9);
            hall.come(4, 4, 0, 1);
            hall.dance(0, 3);
            hall.dance(1, 3);
            hall.wind(0, -92);
            hall.wind(1, 100);
            hall.addWinder(2, 2, 10);
            hall.call(0, 0);
            hall.call(0, 1);
            // 0 has 18, 9, 10 and 1 behind the beats 1 to 4: it stops at the fourth, but has too little now
            Check.same("foresee(0, 1, 3)", hall.foresee(0, 1, 3), 18);
            Check.same("foresee(0, 4, 3)", hall.foresee(0, 4, 3), 1);
            Check.same("firstToStop(40)", hall.firstToStop(40), -1);
            hall.wind(0, 1);
            Check.same("firstToStop(1)", hall.firstToStop(1), -1);
            Check.same("firstToStop(2)", hall.firstToStop(2), 0);
        });
        Check.test("promise 20: who is wound up in the same beat does not stop", () -> {
            WaltzHall hall = new WaltzHall();
            hall.come(2, 2, 0, 5);
            hall.dance(0, 3);
            hall.wind(0, -95);
            Check.same("firstToStop(1)", hall.firstToStop(1), 0);
            hall.addWinder(2, 2, 5);
            hall.call(0, 0);
            Check.same("firstToStop(200)", hall.firstToStop(200), -1);
        });
        Check.test("promise 20: who stopped and is wound up later was the first all the same", () -> {
            WaltzHall hall = new WaltzHall();
            hall.come(5, 5, 0, 5);
            hall.come(9, 9, 0, 5);
            hall.dance(0, 3);
            hall.dance(1, 3);
            hall.wind(1, -95);
            hall.wind(0, -90);
            hall.addWinder(9, 12, 100);
            hall.call(0, 1);
            Check.same("firstToStop(200)", hall.firstToStop(200), 1);
        });
        Check.test("promise 20: nobody at all, and who stops before the end", () -> {
            WaltzHall hall = new WaltzHall();
            Check.same("firstToStop(200)", hall.firstToStop(200), -1);
            hall.come(0, 0, 0, 1);
            hall.dance(0, 3);
            hall.wind(0, 100);
            Check.same("firstToStop(199)", hall.firstToStop(199), -1);
            Check.same("firstToStop(200)", hall.firstToStop(200), 0);
        });
        Check.test("promise 20: no such beats", () -> {
            WaltzHall hall = new WaltzHall();
            Check.argument(hall, () -> hall.firstToStop(0));
            Check.argument(hall, () -> hall.firstToStop(201));
            Check.argument(hall, () -> hall.firstToStop(-1));
            Check.argument(hall, () -> hall.firstToStop(Integer.MAX_VALUE));
            Check.argument(hall, () -> hall.firstToStop(Integer.MIN_VALUE));
        });
    }

    private static void meet() {
        Check.test("promise 21: the first beat behind which both are beside each other", () -> {
            WaltzHall hall = Halls.solo(2, 7, 1, 1, "f");
            hall.come(7, 7, 0, 1);
            hall.dance(1, 3);
            long before = hall.digest();
            Check.same("meet(0, 1, 200)", hall.meet(0, 1, 200), 4);
            Check.same("meet(1, 0, 200)", hall.meet(1, 0, 200), 4);
            Check.same("meet(0, 1, 4)", hall.meet(0, 1, 4), 4);
            Check.same("meet(0, 1, 3)", hall.meet(0, 1, 3), -1);
            Check.same("digest", hall.digest(), before);
            hall.pass(4);
            Check.same("meet(0, 1, 1)", hall.meet(0, 1, 1), 0);
        });
        Check.test("promise 21: past each other", () -> {
            WaltzHall hall = Halls.solo(4, 7, 0, 1, "f");
            hall.come(5, 2, 0, 1);
            hall.dance(1, 3);
            // up in the column beside: at 4, 2 behind 5 beats
            Check.same("meet(0, 1, 200)", hall.meet(0, 1, 200), 5);
        });
        Check.test("promise 21: a corner is not beside", () -> {
            WaltzHall hall = new WaltzHall();
            hall.come(4, 7, 0, 1);
            hall.come(5, 8, 0, 1);
            hall.dance(0, 3);
            hall.dance(1, 3);
            Check.same("meet(0, 1, 200)", hall.meet(0, 1, 200), -1);
        });
        Check.test("promise 21: behind the beat number 200", () -> {
            WaltzHall hall = Halls.solo(4, 7, 1, 1, "wwwwwwwwwwwwwwwwwwwf");
            hall.come(15, 7, 0, 1);
            hall.dance(1, 3);
            hall.wind(0, 100);
            Check.same("meet(0, 1, 199)", hall.meet(0, 1, 199), -1);
            Check.same("meet(0, 1, 200)", hall.meet(0, 1, 200), 200);
        });
        Check.test("promise 21: no such dancer, then the same one or no such beats", () -> {
            WaltzHall hall = new WaltzHall();
            Check.index(hall, () -> hall.meet(0, 0, 1));
            hall.come(3, 3, 0, 1);
            hall.come(4, 3, 0, 1);
            Check.index(hall, () -> hall.meet(0, 2, 1));
            Check.index(hall, () -> hall.meet(2, 0, 1));
            Check.index(hall, () -> hall.meet(2, 2, 1));
            Check.index(hall, () -> hall.meet(-1, 0, 0));
            Check.index(hall, () -> hall.meet(0, -1, 201));
            Check.argument(hall, () -> hall.meet(1, 1, 1));
            Check.argument(hall, () -> hall.meet(0, 1, 0));
            Check.argument(hall, () -> hall.meet(0, 1, 201));
            Check.argument(hall, () -> hall.meet(0, 1, Integer.MIN_VALUE));
            Check.same("meet", hall.meet(0, 1, 1), 0);
        });
    }

    private static void tension() {
        Check.test("promise 22: the mean of all springs", () -> {
            WaltzHall hall = new WaltzHall();
            Check.same("tension()", hall.tension(), 0.0);
            hall.come(3, 3, 0, 1);
            Check.same("tension()", hall.tension(), 100.0);
            hall.come(5, 3, 0, 1);
            hall.wind(1, 1);
            Check.same("tension()", hall.tension(), 100.5);
            hall.come(7, 3, 0, 1);
            hall.wind(2, -100);
            Check.same("tension()", hall.tension(), 67.0);
            hall.wind(2, 1);
            Check.same("tension()", hall.tension(), 202.0 / 3.0);
            hall.wind(0, -200);
            hall.wind(1, -200);
            hall.wind(2, -200);
            Check.same("tension()", hall.tension(), 0.0);
        });
    }

    private static void digest() {
        Check.test("promise 23: what is told, in its order", () -> {
            // Telling all takes more than a hundred calls, and an object is used for 512.
            for (int beats = 0; beats < 60; beats++) {
                WaltzHall hall = full();
                if (beats > 0) {
                    hall.pass(beats);
                }
                Check.same("digest()", hall.digest(), told(hall));
            }
        });
        Check.test("promise 23: numbers of a new hall, by hand", () -> {
            // nine counts of 0 make 521 * 31^9; the dance w adds its 1 and its 119
            WaltzHall hall = new WaltzHall();
            for (int dance = 0; dance < 8; dance++) {
                Halls.teach(hall, dance, "w");
            }
            long due = 521;
            for (int i = 0; i < 9; i++) {
                due *= 31;
            }
            for (int i = 0; i < 8; i++) {
                due = (due * 31 + 1) * 31 + 119;
            }
            Check.same("digest()", hall.digest(), due);
        });
        Check.test("promise 23: the tape is not in it", () -> {
            WaltzHall hall = new WaltzHall();
            long before = hall.digest();
            hall.feed(1, 2, 3, 4, 5);
            Check.same("digest()", hall.digest(), before);
        });
    }

    private static WaltzHall full() {
        WaltzHall hall = new WaltzHall();
        hall.come(7, 0, 0, 2);
        hall.come(6, 0, 3, 3);
        hall.come(2, 9, 1, 9);
        hall.pair(0, 1);
        hall.addWinder(1, 2, 3);
        hall.addWinder(9, 8, 70);
        hall.call(1, 0);
        hall.call(1, 2);
        Halls.teach(hall, 4, "fblrtusw");
        hall.dance(2, 4);
        return hall;
    }

    /** The checksum, made from what the other calls tell. */
    static long told(WaltzHall hall) {
        long d = 521;
        for (int what = 0; what < 9; what++) {
            d = d * 31 + hall.count(what);
        }
        for (int dance = 0; dance < 8; dance++) {
            String text = Halls.danceOf(hall, dance);
            d = d * 31 + text.length();
            for (int place = 0; place < text.length(); place++) {
                d = d * 31 + text.charAt(place);
            }
        }
        for (int dancer = 0; dancer < hall.count(1); dancer++) {
            for (int what = 0; what < 12; what++) {
                d = d * 31 + hall.dancer(dancer, what);
            }
        }
        for (int winder = 0; winder < hall.count(3); winder++) {
            for (int what = 0; what < 6; what++) {
                d = d * 31 + hall.winder(winder, what);
            }
        }
        return d;
    }
}
