/** Promise 11, each of its words that name a boundary. */
final class VersionEdgesTest {
    private static final String PROMISE = "Promise 11";

    public static void main(String[] args) {
        Check check = new Check();
        leastAndGreatest(check);
        takesThePlace(check);
        wrongNumbers(check);
        check.end();
    }

    private static void leastAndGreatest(Check check) {
        check.about(PROMISE, "OLD has this VERSION (each 0 to 999): true");
        int[] edges = {0, 1, 998, 999};
        for (int first : edges) {
            for (int second : edges) {
                for (int third : edges) {
                    ReleaseDesk desk = new ReleaseDesk();
                    String told = first + "." + second + "." + third;
                    check.yes("version " + told, desk.version(first, second, third));
                    check.same("judge " + told, desk.judge(first, second, third), 2);
                    check.same("advice after " + told, desk.advice(),
                        first * 1000000 + second * 1000 + third + 1);
                }
            }
        }
    }

    private static void takesThePlace(Check check) {
        check.about(PROMISE, "OLD has this VERSION");
        ReleaseDesk desk = new ReleaseDesk();
        desk.version(999, 999, 999);
        check.yes("a lower one", desk.version(0, 0, 0));
        check.same("counts", desk.advice(), 1);
        check.same("and nothing of before", desk.judge(0, 0, 1), 0);
    }

    private static void wrongNumbers(Check check) {
        check.about(PROMISE, "false for others");
        for (int wrong : Told.outside(0, 999)) {
            refused(check, wrong, 7, 8);
            refused(check, 7, wrong, 8);
            refused(check, 7, 8, wrong);
            refused(check, wrong, wrong, wrong);
        }
        // Numbers that together would make a version again.
        refused(check, 1, -1, 1000);
        refused(check, 0, 1000, 0);
        refused(check, 1, 1, -1);
    }

    private static void refused(Check check, int first, int second, int third) {
        Unchanged.by(check, "version(" + first + ", " + second + ", " + third + ")", 0,
            desk -> Told.bit(desk.version(first, second, third)));
    }
}
