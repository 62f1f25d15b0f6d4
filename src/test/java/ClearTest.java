/** Promise 10. */
final class ClearTest {
    public static void main(String[] args) {
        Check check = new Check();
        ReleaseDesk desk = new ReleaseDesk();
        desk.type(0, 0, 1, -1, 0);
        check.same("no rules", desk.clear(), 0);
        Told.rule(desk, "*", 1, 33, 0);
        Told.rule(desk, "?", 1, 33, 0);
        Told.spell(desk, "a.A");
        check.same("silent before", desk.list(), 0);
        check.same("two rules", desk.clear(), 2);
        check.same("none weighs any more", desk.list(), 1);
        check.same("the pattern is empty", desk.fits(0, 0, true, -1), 0);
        check.same("so it has one letter now", desk.letter('*'), 1);
        check.same("the first rule again", desk.rule(1, 33, 2), 1);
        check.same("has the new pattern", desk.change(0, 1), 2);
        check.same("one rule", desk.clear(), 1);
        check.same("none", desk.clear(), 0);
        check.end();
    }
}
