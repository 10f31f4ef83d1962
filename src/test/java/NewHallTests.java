/** Promise 1. */
final class NewHallTests {
    private static final String[] FIRST_DANCES = {
        "frbl", "ftftftft", "sswl", "w", "fbfbt", "rrlluu", "flbr", "tutu"
    };

    private NewHallTests() {
    }

    static void run() {
        Check.test("promise 1: nothing is counted in a new hall", () -> {
            WaltzHall hall = new WaltzHall();
            for (int what = 0; what <= 8; what++) {
                Check.same("count(" + what + ")", hall.count(what), 0);
            }
            Check.same("tension()", hall.tension(), 0.0);
        });
        Check.test("promise 1: the first dances", () -> {
            WaltzHall hall = new WaltzHall();
            for (int dance = 0; dance < 8; dance++) {
                String text = Halls.danceOf(hall, dance);
                Check.isTrue("dance " + dance + " is " + FIRST_DANCES[dance] + ", not " + text,
                        text.equals(FIRST_DANCES[dance]));
            }
        });
        Check.test("promise 1: the tape is empty", () -> {
            WaltzHall hall = new WaltzHall();
            Check.argument(hall, () -> hall.trim(1));
            Check.same("trim(0)", hall.trim(0), 0);
            Check.same("learn(0)", hall.learn(0), -1);
        });
        Check.test("promise 1: nobody stands on the floor", () -> {
            WaltzHall hall = new WaltzHall();
            for (int tile = 0; tile < 256; tile++) {
                Check.same("at", hall.at(tile % 16, tile / 16), -1);
            }
            Check.index(hall, () -> hall.dancer(0, 0));
            Check.index(hall, () -> hall.winder(0, 0));
        });
        Check.test("promise 1: halls share nothing", () -> {
            WaltzHall one = new WaltzHall();
            Halls.teach(one, 0, "w");
            one.come(1, 1, 1, 1);
            WaltzHall other = new WaltzHall();
            Check.same("digest()", other.digest(), new WaltzHall().digest());
            Check.same("count(1)", other.count(1), 0);
            Check.same("figure(0, 0)", other.figure(0, 0), 'f');
        });
    }
}
