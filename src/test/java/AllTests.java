/** Runs every test of the project. */
public final class AllTests {
    private AllTests() {
    }

    public static void main(String[] args) {
        NewHallTests.run();
        DanceTests.run();
        DancerTests.run();
        WinderTests.run();
        BeatTests.run();
        AheadTests.run();
        FaceTests.run();
        LanguageTests.run();
        ReadmeTests.run();
        EdgeTermsTests.run();
        EdgeDanceTests.run();
        EdgeDancerTests.run();
        EdgeWinderTests.run();
        EdgeBeatTests.run();
        EdgeAheadTests.run();
        RandomTests.run();
        if (!Check.summary()) {
            System.exit(1);
        }
    }
}
