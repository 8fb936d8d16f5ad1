/** Runs every test of the project. */
public final class AllTests {
    private AllTests() {
    }

    public static void main(String[] args) {
        FaceTest.all();
        LanguageTest.all();
        RoomTest.all();
        ReadmeTest.all();
        BodiesTest.all();
        EdgesOfBodiesTest.all();
        LinesTest.all();
        ScopesTest.all();
        EdgesOfScopesTest.all();
        CancelTest.all();
        LocksAndChannelsTest.all();
        EdgesOfTurnsTest.all();
        AsksTest.all();
        WouldTest.all();
        EdgesOfCallsTest.all();
        ReadAgainTest.all();
        ModelTest.all();
        if (!Check.tellEnd()) {
            System.exit(1);
        }
    }
}
