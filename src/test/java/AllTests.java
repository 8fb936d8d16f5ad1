/** Runs every test of the project. */
public final class AllTests {
    private AllTests() {
    }

    public static void main(String[] args) {
        ModelTest.all();
        if (!Check.tellEnd()) {
            System.exit(1);
        }
    }
}
