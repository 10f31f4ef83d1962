/** Runs every test of the project. */
public final class AllTests {
    private AllTests() {
    }

    public static void main(String[] args) {
        NewHallTests.run();
        DanceTests.run();
        if (!Check.summary()) {
            System.exit(1);
        }
    }
}
