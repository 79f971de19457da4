/** Runs every test of the project; the arguments are the file of the program and README.md. */
public final class AllTests {
    private AllTests() {
    }

    public static void main(String[] arguments) throws Exception {
        Checks c = new Checks();
        ExampleTests.run(c);
        FaceTests.run(c);
        GraphTests.run(c);
        PropertyTests.run(c);
        WalkTests.run(c);
        PolynomialTests.run(c);
        GraphBoundaries.run(c);
        TextBoundaries.run(c);
        UndoBoundaries.run(c);
        WalkBoundaries.run(c);
        PolynomialBoundaries.run(c);
        RefusalTests.run(c);
        RandomRuns.run(c);
        RoomTests.run(c);
        LanguageTests.run(c, arguments[0]);
        ReadmeTests.run(c, arguments[1]);
        System.out.println("project: " + c.passed() + " passed, " + c.failed() + " failed");
        System.exit(c.failed() == 0 ? 0 : 1);
    }
}
