/** What one test program has looked at: each thing that does not hold is printed, and counted. */
final class Checks {
    private final String of;
    private int passed = 0, failed = 0;

    Checks(String of) { this.of = of; }

    void hold(String what, boolean is) {
        if (is) {
            passed++;
            return;
        }
        failed++;
        System.out.println(of + ": " + what);
    }

    /** The end of the program: its exit code is 1 if anything did not hold. */
    void end() {
        System.out.println(of + ": " + passed + " passed, " + failed + " failed");
        if (failed > 0 || passed == 0) System.exit(1);
    }
}
