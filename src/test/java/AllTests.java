/** Runs every test of the project. */
public final class AllTests {
    private AllTests() {
    }

    public static void main(String[] args) {
        FaceTest.all();
        BodiesTest.all();
        LinesTest.all();
        ScopesTest.all();
        CancelTest.all();
        LocksAndChannelsTest.all();
        AsksTest.all();
        WouldTest.all();
        ModelTest.all();
        if (!Check.tellEnd()) {
            System.exit(1);
        }
    }
}
