/** Promise 10, each of its words that name a boundary. */
final class ClearEdgesTest {
    private static final String PROMISE = "Promise 10";

    public static void main(String[] args) {
        Check check = new Check();
        ofNothing(check);
        howMany(check);
        noRules(check);
        patternIsEmpty(check);
        leavesAllElse(check);
        check.end();
    }

    private static void ofNothing(Check check) {
        check.about(PROMISE, "how many there were");
        Unchanged.after(desk -> { }, check, "clear() on a new desk", 0, desk -> desk.clear());
        ReleaseDesk desk = new ReleaseDesk();
        desk.letter('a');
        check.same("a pattern is no rule", desk.clear(), 0);
    }

    private static void howMany(Check check) {
        check.about(PROMISE, "how many there were");
        for (int rules = 0; rules <= 9; rules++) {
            ReleaseDesk desk = new ReleaseDesk();
            for (int k = 0; k < rules; k++) {
                desk.rule(1, 33, 1);
            }
            check.same("after " + rules, desk.clear(), Math.min(rules, 8));
            check.same("and again", desk.clear(), 0);
        }
    }

    private static void noRules(Check check) {
        check.about(PROMISE, "There are no RULES any more");
        ReleaseDesk desk = Single.desk(1);
        for (int k = 0; k < 8; k++) {
            Told.rule(desk, "*", 1, 33, 0);
        }
        check.same("silent", desk.list(), 0);
        desk.clear();
        check.same("none weighs", desk.change(0, 1), 3);
        check.same("one more", desk.rule(33, 33, 1), 1);
        check.same("brings none back", desk.change(0, 1), 3);
        for (int k = 2; k <= 8; k++) {
            check.same("rule " + k, desk.rule(33, 33, 1), k);
        }
        check.same("nor do eight", desk.change(0, 1), 3);
        check.same("and that is all", desk.rule(33, 33, 1), ReleaseDesk.FULL);
    }

    private static void patternIsEmpty(Check check) {
        check.about(PROMISE, "and the PATTERN is empty");
        for (int rules = 0; rules <= 8; rules += 4) {
            for (int length = 0; length <= 12; length += 6) {
                ReleaseDesk desk = Single.desk(1);
                for (int k = 0; k < rules; k++) {
                    desk.rule(1, 33, 1);
                }
                for (int k = 0; k < length; k++) {
                    desk.letter('*');
                }
                check.same("clear", desk.clear(), rules);
                check.same("fits", desk.fits(0, 0, Mode.METHOD, -1), 0);
                check.same("a letter", desk.letter('a'), 1);
                check.same("no letter of before", desk.fits(0, 0, Mode.METHOD, -1), 0);
            }
        }
    }

    private static void leavesAllElse(Check check) {
        check.about(PROMISE, "There are no RULES any more, and the PATTERN is empty");
        Calls bare = desk -> {
            Busy.fill(desk);
            desk.clear();
        };
        Unchanged.after(bare, check, "clear() again", 0, desk -> desk.clear());
        ReleaseDesk desk = new ReleaseDesk();
        bare.on(desk);
        check.same("the version stays", desk.judge(4, 5, 6) % 4, 2);
        check.same("the types and members stay", desk.branch(), 6);
    }
}
