/** Halls as the tests need them. */
final class Halls {
    static final int X = 0;
    static final int Y = 1;
    static final int FACE = 2;
    static final int SPRING = 3;
    static final int COST = 4;
    static final int DANCE = 5;
    static final int PLACE = 6;
    static final int PARTNER = 7;
    static final int FOLLOWS = 8;
    static final int DIZZY = 9;
    static final int FIGURES = 10;
    static final int BUMPS = 11;

    private Halls() {
    }

    /** Puts a text of at most 20 signs on an empty tape. */
    static void tape(WaltzHall hall, String text) {
        int[] numbers = new int[5];
        for (int i = 0; i < 20; i++) {
            int sign = i < text.length() ? text.charAt(i) : ' ';
            numbers[i / 4] = numbers[i / 4] << 8 | sign;
        }
        hall.feed(numbers[0], numbers[1], numbers[2], numbers[3], numbers[4]);
        hall.trim(text.length());
    }

    static int teach(WaltzHall hall, int dance, String text) {
        tape(hall, text);
        return hall.learn(dance);
    }

    static String danceOf(WaltzHall hall, int dance) {
        StringBuilder text = new StringBuilder();
        for (int place = 0; place < 1000; place++) {
            try {
                text.append((char) hall.figure(dance, place));
            } catch (IndexOutOfBoundsException e) {
                return text.toString();
            }
        }
        return text.toString();
    }

    /** One dancer at the number 0 who dances the text as the dance 7. */
    static WaltzHall solo(int x, int y, int face, int cost, String text) {
        WaltzHall hall = new WaltzHall();
        hall.come(x, y, face, cost);
        teach(hall, 7, text);
        hall.dance(0, 7);
        return hall;
    }

    /** 0, who leads with the face and dances the text, and 1, who follows with the face behind it. */
    static WaltzHall couple(int x, int y, int face, int otherX, int otherY, String text) {
        WaltzHall hall = solo(x, y, face, 2, text);
        hall.come(otherX, otherY, (face + 1) % 4, 3);
        hall.pair(0, 1);
        return hall;
    }

    /** One more who rests all the time (the dance 3 is w), and spends nothing, for its spring is let down. */
    static int still(WaltzHall hall, int x, int y) {
        int number = hall.come(x, y, 0, 1);
        hall.dance(number, 3);
        hall.wind(number, -200);
        return number;
    }

    static void tells(WaltzHall hall, int dancer, int what, int due) {
        Check.same("dancer(" + dancer + ", " + what + ")", hall.dancer(dancer, what), due);
    }

    static void stands(WaltzHall hall, int dancer, int x, int y, int face) {
        tells(hall, dancer, X, x);
        tells(hall, dancer, Y, y);
        tells(hall, dancer, FACE, face);
        Check.same("at(" + x + ", " + y + ")", hall.at(x, y), dancer);
    }

    static void winderStands(WaltzHall hall, int winder, int x, int y) {
        Check.same("winder(" + winder + ", 0)", hall.winder(winder, 0), x);
        Check.same("winder(" + winder + ", 1)", hall.winder(winder, 1), y);
    }
}
