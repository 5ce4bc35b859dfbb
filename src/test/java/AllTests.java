/** Runs every test of the project; exit code 1 if one answer is not the one that is due. */
public final class AllTests {
    public static void main(String[] args) {
        TextTest.run();
        ChangeTest.run();
        WaysTest.run();
        RunTest.run();
        DawnTest.run();
        BreaksTest.run();
        SheetsTest.run();
        TokenTest.run();
        EdgeTest.run();
        KeptEdgeTest.run();
        BoundsTest.run();
        UnchangedTest.run();
        ModelTest.run();
        FaceTest.run();
        LanguageTest.run();
        ReadmeTest.run();
        System.out.println(Due.passed + " passed, " + Due.failed + " failed");
        if (Due.failed != 0) {
            System.exit(1);
        }
    }
}
