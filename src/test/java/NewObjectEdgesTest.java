/** Promise 1, each of its words that name an empty thing. */
final class NewObjectEdgesTest {
    private static final String PROMISE = "Promise 1";

    public static void main(String[] args) {
        Check check = new Check();
        noTypes(check);
        noRules(check);
        emptyPattern(check);
        version(check);
        refusedConstant(check);
        noneConstant(check);
        fullConstant(check);
        check.end();
    }

    private static void noTypes(Check check) {
        check.about(PROMISE, "No TYPES");
        for (int build = 0; build < 2; build++) {
            for (int t = 0; t < 8; t++) {
                ReleaseDesk desk = new ReleaseDesk();
                String where = " of type " + t + " in " + build;
                check.same("fits" + where, desk.fits(build, t, Mode.METHOD, -1), ReleaseDesk.NONE);
                check.no("drop" + where, desk.drop(build, t));
                check.no("member" + where, desk.member(build, t, Mode.METHOD, 0, Mode.PUBLIC));
                check.no("constant" + where, desk.constant(build, t, 0, 1));
                check.no("remove" + where, desk.remove(build, t, Mode.METHOD, 0));
            }
        }
        ReleaseDesk desk = new ReleaseDesk();
        check.same("list", desk.list(), 0);
        check.same("branch", desk.branch(), 0);
        check.same("list after branch", desk.list(), 0);
    }

    private static void noRules(Check check) {
        check.about(PROMISE, "no RULES");
        check.same("clear", new ReleaseDesk().clear(), 0);
        ReleaseDesk desk = new ReleaseDesk();
        for (int k = 1; k <= 8; k++) {
            check.same("rule " + k, desk.rule(1, 33, 0), k);
        }
        desk = new ReleaseDesk();
        desk.type(0, 0, Mode.PUBLIC_TYPE, -1, 0);
        check.same("the weight of a removed type", desk.change(0, 1), 3);
    }

    private static void emptyPattern(Check check) {
        check.about(PROMISE, "an empty PATTERN");
        ReleaseDesk desk = new ReleaseDesk();
        desk.type(0, 0, Mode.PUBLIC_TYPE, -1, 0);
        check.same("fits a type", desk.fits(0, 0, Mode.METHOD, -1), 0);
        check.same("fits a method", desk.fits(0, 0, Mode.METHOD, 0), 0);
        for (int k = 1; k <= 12; k++) {
            check.same("letter " + k, desk.letter('?'), k);
        }
        desk = new ReleaseDesk();
        desk.type(0, 0, Mode.PUBLIC_TYPE, -1, 0);
        desk.rule(1, 33, 0);
        check.same("a rule with it silences nothing", desk.list(), 1);
    }

    private static void version(Check check) {
        check.about(PROMISE, "VERSION 1, 0, 0");
        ReleaseDesk desk = new ReleaseDesk();
        check.same("advice", desk.advice(), 1000001);
        check.same("judge 1.0.1", desk.judge(1, 0, 1), 0);
        check.same("judge 1.0.0", desk.judge(1, 0, 0), 2);
        check.same("judge 0.999.999", desk.judge(0, 999, 999), 2);
        desk.type(0, 0, Mode.PUBLIC_TYPE, -1, 0);
        check.same("advice with a break", desk.advice(), 2000000);
        check.same("judge 1.0.1 with a break", desk.judge(1, 0, 1), 5);
    }

    private static void refusedConstant(Check check) {
        check.about("Terms", "REFUSED = -1");
        check.same("REFUSED", ReleaseDesk.REFUSED, -1);
        check.same("letter(0)", new ReleaseDesk().letter(0), -1);
    }

    private static void noneConstant(Check check) {
        check.about("Terms", "NONE = -2");
        check.same("NONE", ReleaseDesk.NONE, -2);
        check.same("change(0, 0)", new ReleaseDesk().change(0, 0), -2);
    }

    private static void fullConstant(Check check) {
        check.about("Terms", "FULL = -3");
        check.same("FULL", ReleaseDesk.FULL, -3);
        ReleaseDesk desk = new ReleaseDesk();
        Told.spell(desk, "????????????");
        check.same("a thirteenth letter", desk.letter('?'), -3);
    }
}
