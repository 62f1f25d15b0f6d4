/** Promise 18, each of its words that name a boundary; what a PATTERN fits is in PatternEdgesTest. */
final class FitsEdgesTest {
    private static final String PROMISE = "Promise 18";

    public static void main(String[] args) {
        Check check = new Check();
        builds(check);
        types(check);
        signs(check);
        theType(check);
        asItIs(check);
        refused(check);
        refusedThoughNotThere(check);
        none(check);
        memberNeedNotBe(check);
        changesNothing(check);
        check.end();
    }

    private static void builds(Check check) {
        check.about(PROMISE, "fits the NAME of TYPE t in a BUILD");
        ReleaseDesk desk = new ReleaseDesk();
        desk.type(0, 3, 16, -1, 0);
        desk.type(1, 3, 32, -1, 0);
        Told.spell(desk, "b.*");
        check.same("the package in OLD", desk.fits(0, 3, Mode.METHOD, -1), 1);
        check.same("the package in NEW", desk.fits(1, 3, Mode.METHOD, -1), 0);
        check.same("of a method in OLD", desk.fits(0, 3, Mode.METHOD, 0), 1);
        check.same("of a method in NEW", desk.fits(1, 3, Mode.METHOD, 0), 0);
    }

    private static void types(Check check) {
        check.about(PROMISE, "the NAME of TYPE t");
        for (int t = 0; t < 8; t++) {
            ReleaseDesk desk = new ReleaseDesk();
            for (int u = 0; u < 8; u++) {
                desk.type(0, u, 0, -1, 0);
            }
            Told.spell(desk, "a." + "ABCDEFGH".charAt(t));
            for (int u = 0; u < 8; u++) {
                check.same("type " + u, desk.fits(0, u, Mode.FIELD, -1), u == t ? 1 : 0);
            }
        }
    }

    private static void signs(Check check) {
        check.about(PROMISE, "or of its MEMBER of this SIGN and kind");
        ReleaseDesk desk = new ReleaseDesk();
        desk.type(0, 0, 0, -1, 0);
        Told.spell(desk, "a.A.a()");
        for (int sign = -1; sign < 12; sign++) {
            check.same("method " + sign, desk.fits(0, 0, Mode.METHOD, sign), sign == 0 ? 1 : 0);
            check.same("field " + sign, desk.fits(0, 0, Mode.FIELD, sign), 0);
        }
        desk.clear();
        Told.spell(desk, "a.A.d:double");
        for (int sign = -1; sign < 12; sign++) {
            check.same("method " + sign, desk.fits(0, 0, Mode.METHOD, sign), 0);
            check.same("field " + sign, desk.fits(0, 0, Mode.FIELD, sign), sign == 11 ? 1 : 0);
        }
    }

    private static void theType(Check check) {
        check.about(PROMISE, "(sign -1: the TYPE)");
        ReleaseDesk desk = new ReleaseDesk();
        desk.type(0, 0, 0, -1, 0);
        Told.spell(desk, "???");
        check.same("as a method", desk.fits(0, 0, Mode.METHOD, -1), 1);
        check.same("as a field", desk.fits(0, 0, Mode.FIELD, -1), 1);
        check.same("sign 0", desk.fits(0, 0, Mode.METHOD, 0), 0);
    }

    private static void asItIs(Check check) {
        check.about(PROMISE, "Whether the PATTERN, as it is, fits");
        ReleaseDesk desk = new ReleaseDesk();
        desk.type(0, 0, 0, -1, 0);
        check.same("the empty one", desk.fits(0, 0, Mode.METHOD, -1), 0);
        int[] due = {0, 0, 1, 0};
        for (int k = 0; k < due.length; k++) {
            desk.letter("a.A.".charAt(k));
            check.same("after letter " + k, desk.fits(0, 0, Mode.METHOD, -1), due[k]);
        }
        desk.clear();
        Told.spell(desk, "a.A");
        desk.rule(1, 33, 1);
        check.same("not that of a rule", desk.fits(0, 0, Mode.METHOD, -1), 0);
    }

    private static void refused(Check check) {
        check.about(PROMISE, "REFUSED if a number is not as said");
        for (boolean method : new boolean[] {Mode.FIELD, Mode.METHOD}) {
            for (int wrong : Told.outside(-1, 11)) {
                refused(check, 0, 0, method, wrong);
                refused(check, 1, 7, method, wrong);
            }
            for (int wrong : Told.outside(0, 7)) {
                refused(check, 0, wrong, method, 0);
                refused(check, 1, wrong, method, -1);
            }
            for (int wrong : Told.outside(0, 1)) {
                refused(check, wrong, 0, method, 0);
                refused(check, wrong, 7, method, -1);
            }
        }
    }

    private static void refused(Check check, int build, int t, boolean method, int sign) {
        Unchanged.onBusyDesk(check, "fits(" + build + ", " + t + ", " + method + ", " + sign + ")",
            ReleaseDesk.REFUSED, desk -> desk.fits(build, t, method, sign));
    }

    private static void refusedThoughNotThere(Check check) {
        check.about(PROMISE, "REFUSED if a number is not as said");
        for (int wrong : Told.outside(-1, 11)) {
            check.same("sign " + wrong + " of a type not there",
                new ReleaseDesk().fits(0, 0, Mode.METHOD, wrong), ReleaseDesk.REFUSED);
        }
    }

    private static void none(Check check) {
        check.about(PROMISE, "NONE if the TYPE is not THERE");
        for (int build = 0; build < 2; build++) {
            for (int t = 0; t < 8; t += 7) {
                for (int sign = -1; sign < 12; sign += 6) {
                    int home = build;
                    int type = t;
                    int asked = sign;
                    Unchanged.after(desk -> desk.letter('*'), check, "fits of a type not there",
                        ReleaseDesk.NONE, desk -> desk.fits(home, type, Mode.METHOD, asked));
                }
                ReleaseDesk desk = new ReleaseDesk();
                desk.letter('*');
                desk.type(build, t, 0, -1, 0);
                check.same("in the other build", desk.fits(1 - build, t, Mode.METHOD, 0),
                    ReleaseDesk.NONE);
                check.same("there, if not seen", desk.fits(build, t, Mode.METHOD, 0), 1);
                desk.drop(build, t);
                check.same("dropped", desk.fits(build, t, Mode.METHOD, 0), ReleaseDesk.NONE);
            }
        }
    }

    private static void memberNeedNotBe(Check check) {
        check.about(PROMISE, "(the MEMBER need not be)");
        ReleaseDesk desk = new ReleaseDesk();
        desk.type(0, 0, 1, -1, 0);
        desk.letter('*');
        for (int sign = 0; sign < 12; sign++) {
            check.same("method " + sign, desk.fits(0, 0, Mode.METHOD, sign), 1);
            check.same("field " + sign, desk.fits(0, 0, Mode.FIELD, sign), 1);
        }
        check.same("and does not come by it", desk.branch(), 0);
    }

    private static void changesNothing(Check check) {
        check.about(PROMISE, "Whether the PATTERN, as it is, fits");
        Unchanged.onBusyDesk(check, "fits(0, 0, METHOD, 0)", 1, desk -> desk.fits(0, 0, Mode.METHOD, 0));
        Unchanged.onBusyDesk(check, "fits(1, 3, FIELD, 3)", 0, desk -> desk.fits(1, 3, Mode.FIELD, 3));
    }
}
