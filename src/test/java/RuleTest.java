/** Promise 9, and what RULES do to weights. */
final class RuleTest {
    public static void main(String[] args) {
        Check check = new Check();
        refusesWrongNumbers(check);
        takesEight(check);
        lastRuleWins(check);
        looksAtCodesAndNames(check);
        weighsAllCodes(check);
        check.end();
    }

    private static void refusesWrongNumbers(Check check) {
        ReleaseDesk desk = new ReleaseDesk();
        desk.type(0, 0, 1, -1, 0);
        Told.spell(desk, "a.A");
        int[][] wrong = {
            {0, 1, 1}, {-1, 1, 1}, {1, 34, 1}, {34, 34, 1}, {2, 1, 1}, {33, 1, 1}, {1, 0, 1},
            {1, 1, -1}, {1, 1, 4}, {Integer.MIN_VALUE, 1, 1}, {1, Integer.MAX_VALUE, 1},
            {1, 1, Integer.MAX_VALUE}, {1, 1, Integer.MIN_VALUE},
        };
        for (int[] w : wrong) {
            check.same("wrong rule", desk.rule(w[0], w[1], w[2]), ReleaseDesk.REFUSED);
        }
        check.same("the pattern stays", desk.fits(0, 0, true, -1), 1);
        check.same("the rule with it", desk.rule(1, 1, 0), 1);
        check.same("has it", desk.list(), 0);
        check.same("the pattern is empty then", desk.letter('a'), 1);
    }

    private static void takesEight(Check check) {
        ReleaseDesk desk = new ReleaseDesk();
        for (int k = 1; k <= 8; k++) {
            check.same("rule " + k, desk.rule(1, 33, 3), k);
        }
        check.same("a ninth", desk.rule(1, 33, 3), ReleaseDesk.FULL);
        check.same("a wrong ninth", desk.rule(1, 34, 3), ReleaseDesk.REFUSED);
        Told.spell(desk, "ab");
        check.same("a ninth with a pattern", desk.rule(1, 33, 3), ReleaseDesk.FULL);
        check.same("which stays", desk.letter('c'), 3);
        check.same("eight stay", desk.clear(), 8);
    }

    private static void lastRuleWins(Check check) {
        ReleaseDesk desk = new ReleaseDesk();
        desk.type(0, 0, 1, -1, 0);
        Told.rule(desk, "*", 1, 33, 1);
        check.same("lighter", desk.change(0, 1), 1);
        Told.rule(desk, "a.?", 1, 1, 2);
        check.same("the later one", desk.change(0, 1), 2);
        Told.rule(desk, "b.?", 1, 1, 0);
        check.same("one that does not fit", desk.change(0, 1), 2);
        Told.rule(desk, "a.A", 2, 33, 0);
        check.same("one of other codes", desk.change(0, 1), 2);
        Told.rule(desk, "", 1, 33, 0);
        check.same("one with an empty pattern", desk.change(0, 1), 2);
        Told.rule(desk, "a.A", 1, 33, 0);
        check.same("silent", desk.list(), 0);
        Told.rule(desk, "a.A", 1, 33, 3);
        check.same("heavy again", desk.change(0, 1), 3);
    }

    private static void looksAtCodesAndNames(Check check) {
        ReleaseDesk desk = new ReleaseDesk();
        desk.type(0, 0, 1, -1, 0);
        desk.member(0, 0, true, 4, 24);
        desk.member(0, 0, false, 4, 24);
        desk.branch();
        desk.type(1, 0, 17, -1, 0);
        desk.remove(1, 0, true, 4);
        desk.remove(1, 0, false, 4);
        Told.rule(desk, "a.A", 1, 33, 1);
        check.text("the name of the type as in OLD", Told.lines(desk),
            "B a.A.b(int) 20\nB a.A.b:long 20\nN a.A 4\n2 0 1");
        Told.rule(desk, "a.A.b(*)", 20, 20, 2);
        check.text("the name of a method", Told.lines(desk),
            "B a.A.b:long 20\nW a.A.b(int) 20\nN a.A 4\n1 1 1");
        Told.rule(desk, "*:*", 20, 20, 0);
        check.text("the name of a field", Told.lines(desk), "W a.A.b(int) 20\nN a.A 4\n0 1 1");
        Told.rule(desk, "b.*", 1, 33, 0);
        check.text("not as in NEW", Told.lines(desk), "W a.A.b(int) 20\nN a.A 4\n0 1 1");

        ReleaseDesk added = new ReleaseDesk();
        added.type(0, 0, 0, -1, 0);
        added.type(1, 0, 33, -1, 0);
        Told.rule(added, "a.A", 3, 3, 0);
        check.text("code 3 has its name in NEW", Told.lines(added), "N c.A 3\n0 0 1");
        Told.rule(added, "c.A", 3, 3, 3);
        check.text("and is weighed by it", Told.lines(added), "B c.A 3\n1 0 0");
    }

    private static void weighsAllCodes(Check check) {
        ReleaseDesk desk = Mode.deskWithType();
        desk.type(0, 0, 13, -1, 0);
        check.same("silent by themselves", desk.list(), 0);
        Told.rule(desk, "*", 9, 9, 2);
        check.text("a rule makes a silent one heard", Told.lines(desk), "W a.A 9\n0 1 0");
        Told.rule(desk, "*", 7, 7, 1);
        check.text("and another", Told.lines(desk), "W a.A 9\nN a.A 7\n0 1 1");
        check.same("codes 1 to 33", desk.rule(33, 33, 0), 3);
    }
}
