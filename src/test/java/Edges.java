/** Refused calls, compared with a twin that never had them, and halls that stand at an edge. */
final class Edges {
    private static final int TAPE = 40;

    interface Maker {
        WaltzHall make();
    }

    interface Call {
        void on(WaltzHall hall);
    }

    private Edges() {
    }

    static void index(Maker maker, Call... calls) {
        refuses(maker, IndexOutOfBoundsException.class, calls);
    }

    static void argument(Maker maker, Call... calls) {
        refuses(maker, IllegalArgumentException.class, calls);
    }

    static void state(Maker maker, Call... calls) {
        refuses(maker, IllegalStateException.class, calls);
    }

    /** Each call throws just this, and leaves its hall as the twin is, the tape and what comes later included. */
    private static void refuses(Maker maker, Class<? extends RuntimeException> due, Call... calls) {
        for (int i = 0; i < calls.length; i++) {
            Call call = calls[i];
            WaltzHall hall = maker.make();
            Check.throwsJust("call " + i, due, () -> call.on(hall));
            sameFromNowOn("behind the refused call " + i, hall, maker.make());
        }
    }

    static void sameFromNowOn(String what, WaltzHall hall, WaltzHall twin) {
        Check.same("digest() " + what, hall.digest(), twin.digest());
        Check.same("the length of the tape " + what, tapeLength(hall), tapeLength(twin));
        Check.same("learn(5) " + what, hall.learn(5), twin.learn(5));
        // The rounds are told by the turns that come.
        for (int i = 0; i < 40; i++) {
            Check.same("pass(3) " + what, hall.pass(3), twin.pass(3));
            Check.same("digest() then, " + what, hall.digest(), twin.digest());
        }
    }

    static int tapeLength(WaltzHall hall) {
        for (int n = TAPE; n > 0; n--) {
            try {
                return hall.trim(n);
            } catch (IllegalArgumentException e) {
                continue;
            }
        }
        return 0;
    }

    /**
     * A couple, 0 and 1, at 5, 5 and 5, 6; 2, dizzy, at 0, 9; 3, spent, at 10, 3; 4 at 12, 12;
     * two winders under way, and 22 bytes on the tape.
     */
    static WaltzHall busy() {
        WaltzHall hall = new WaltzHall();
        hall.come(4, 5, 1, 2);
        hall.come(4, 6, 2, 3);
        hall.come(0, 9, 3, 4);
        hall.come(10, 3, 0, 9);
        hall.come(13, 12, 2, 1);
        hall.pair(0, 1);
        hall.dance(4, 5);
        hall.addWinder(4, 4, 30);
        hall.addWinder(14, 1, 100);
        hall.call(0, 1);
        hall.call(0, 3);
        hall.call(0, 2);
        hall.call(1, 4);
        hall.call(1, 0);
        hall.wind(3, -95);
        hall.pass(1);
        fill(hall, "frblsswtuftuftuwssbblr");
        return hall;
    }

    /** As many as may come, in the row 7, at every second column, with the face 0. */
    static WaltzHall crowd() {
        WaltzHall hall = new WaltzHall();
        for (int i = 0; i < 8; i++) {
            hall.come(2 * i, 7, 0, 1);
        }
        return hall;
    }

    /** All that may be there: eight dancers as four couples, of all dances, and three winders with rounds of eight. */
    static WaltzHall full() {
        WaltzHall hall = new WaltzHall();
        for (int i = 0; i < 8; i++) {
            hall.come(3 * (i / 2) + i % 2, 7, i % 4, 1 + i);
            hall.dance(i, 7 - i);
        }
        for (int i = 0; i < 8; i += 2) {
            hall.pair(i, i + 1);
        }
        for (int winder = 0; winder < 3; winder++) {
            hall.addWinder(5 * winder, 15, 30 * winder + 1);
            for (int i = 0; i < 8; i++) {
                hall.call(winder, (3 * i + winder) % 8);
            }
        }
        return hall;
    }

    /** A row of letters of any length up to the tape's 40, on an empty tape. */
    static void fill(WaltzHall hall, String text) {
        int[] n = new int[TAPE / 4];
        for (int i = 0; i < TAPE; i++) {
            n[i / 4] = n[i / 4] << 8 | (i < text.length() ? text.charAt(i) : ' ');
        }
        hall.feed(n[0], n[1], n[2], n[3], n[4]);
        hall.feed(n[5], n[6], n[7], n[8], n[9]);
        hall.trim(text.length());
    }
}
