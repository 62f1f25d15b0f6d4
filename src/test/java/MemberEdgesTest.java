/** Promise 4, each of its words that name a boundary. */
final class MemberEdgesTest {
    private static final String PROMISE = "Promise 4";
    private static final String WRONG = "false if a number is not as said";
    private static final int PUBLIC = Mode.PUBLIC_TYPE;

    public static void main(String[] args) {
        Check check = new Check();
        signs(check);
        modes(check);
        access(check);
        flags(check);
        withoutConstant(check);
        takesThePlace(check);
        oneOfEachKindAndSign(check);
        wrongPlaces(check);
        wrongSigns(check);
        wrongModes(check);
        notThere(check);
        check.end();
    }

    private static void refused(Check check, int build, int t, boolean method, int sign, int mode) {
        String told = "member(" + build + ", " + t + ", " + method + ", " + sign + ", " + mode + ")";
        Unchanged.by(check, told, 0, desk -> Told.bit(desk.member(build, t, method, sign, mode)));
    }

    private static void signs(Check check) {
        check.about(PROMISE, "a FIELD (method false) or METHOD with this SIGN (0 to 11)");
        for (boolean method : new boolean[] {Mode.FIELD, Mode.METHOD}) {
            for (int sign : new int[] {0, 11}) {
                for (int t = 0; t < 8; t += 7) {
                    ReleaseDesk desk = new ReleaseDesk();
                    desk.type(0, t, PUBLIC, -1, 0);
                    desk.branch();
                    check.yes("sign " + sign, desk.member(1, t, method, sign, Mode.PUBLIC));
                    check.same("list", desk.list(), 1);
                    check.same("the kind", desk.change(0, 3), method ? 2 : 1);
                    check.same("the sign", desk.change(0, 4), sign);
                    check.same("the type", desk.change(0, 2), t);
                }
            }
        }
    }

    private static void modes(Check check) {
        check.about(PROMISE, "(mode 0 to 31)");
        for (boolean method : new boolean[] {Mode.FIELD, Mode.METHOD}) {
            ReleaseDesk desk = Mode.deskWithType();
            check.yes("mode 0", desk.member(0, 0, method, 0, 0));
            check.yes("mode 31", desk.member(0, 0, method, 1, 31));
            check.same("both are there", desk.branch(), 2);
        }
    }

    private static void access(Check check) {
        check.about(PROMISE, "with ACCESS mode / 8");
        for (boolean method : new boolean[] {Mode.FIELD, Mode.METHOD}) {
            int[] mode = {0, 7, 8, 15, 16, 23, 24, 31};
            String[] due = {"", "", "", "", "25", "25", "", ""};
            for (int k = 0; k < mode.length; k++) {
                ReleaseDesk desk = Mode.deskWithType();
                desk.member(0, 0, method, 5, mode[k]);
                desk.member(1, 0, method, 5, Mode.PUBLIC | mode[k] % 8);
                boolean seen = mode[k] >= Mode.PROTECTED;
                String added = method && mode[k] % 8 == 7 ? "24" : "23";
                check.text("from mode " + mode[k] + " to public", Told.codes(desk),
                    seen ? due[k] : added);
            }
        }
    }

    private static void flags(Check check) {
        check.about(PROMISE, "and FLAGS mode mod 8");
        for (int flags = 0; flags < 8; flags++) {
            String due = (flags & Mode.STATIC) > 0 ? " 26" : "";
            due += (flags & Mode.FINAL) > 0 ? " 27" : "";
            ReleaseDesk desk = Mode.deskWithType();
            desk.member(0, 0, Mode.FIELD, 5, Mode.PROTECTED);
            desk.member(1, 0, Mode.FIELD, 5, Mode.PROTECTED | flags);
            check.text("of a field " + flags, Told.codes(desk), due.trim());
            due += (flags & Mode.ABSTRACT) > 0 ? " 29" : "";
            desk = Mode.deskWithType();
            desk.member(0, 0, Mode.METHOD, 5, Mode.PUBLIC);
            desk.member(1, 0, Mode.METHOD, 5, Mode.PUBLIC | flags);
            check.text("of a method " + flags, Told.codes(desk), due.trim());
        }
    }

    private static void withoutConstant(Check check) {
        check.about(PROMISE, "a FIELD without CONSTANT");
        for (int sign = 0; sign < 12; sign += 11) {
            ReleaseDesk desk = Mode.deskWithType();
            desk.member(0, 0, Mode.FIELD, sign, Mode.PUBLIC);
            desk.constant(0, 0, sign, 0);
            desk.branch();
            check.text("the same", Told.codes(desk), "");
            desk.member(1, 0, Mode.FIELD, sign, Mode.PUBLIC);
            check.text("a field told again has none", Told.codes(desk), "32");
            desk.member(0, 0, Mode.FIELD, sign, Mode.PUBLIC);
            check.text("nor has a new one", Told.codes(desk), "");
        }
    }

    private static void takesThePlace(Check check) {
        check.about(PROMISE, "in place of the one of this kind and SIGN that it had");
        for (boolean method : new boolean[] {Mode.FIELD, Mode.METHOD}) {
            ReleaseDesk desk = Mode.deskWithType();
            desk.member(0, 0, method, 11, Mode.PUBLIC);
            check.yes("again", desk.member(0, 0, method, 11, Mode.PROTECTED | Mode.STATIC));
            check.same("it is still one", desk.branch(), 1);
            desk.member(1, 0, method, 11, Mode.PUBLIC);
            check.text("with the last mode", Told.codes(desk), "26 25");
            check.yes("it goes", desk.remove(0, 0, method, 11));
            check.no("and none is behind it", desk.remove(0, 0, method, 11));
        }
    }

    private static void oneOfEachKindAndSign(Check check) {
        check.about("Promise 4, Terms", "at most one of each kind and SIGN");
        ReleaseDesk desk = Mode.deskWithType();
        desk.member(0, 0, Mode.FIELD, 0, Mode.PUBLIC);
        desk.constant(0, 0, 0, 6);
        desk.member(0, 0, Mode.METHOD, 0, Mode.PRIVATE);
        check.same("a field and a method of one sign", desk.branch(), 2);
        desk.constant(1, 0, 0, 7);
        check.text("the field keeps mode and constant", Told.codes(desk), "31");
        for (int round = 0; round < 2; round++) {
            for (int sign = 0; sign < 12; sign++) {
                desk.member(0, 0, Mode.FIELD, sign, Mode.PUBLIC);
                desk.member(0, 0, Mode.METHOD, sign, Mode.PUBLIC);
            }
        }
        check.same("all, told twice", desk.branch(), 24);
    }

    private static void wrongPlaces(Check check) {
        check.about(PROMISE, WRONG);
        for (boolean method : new boolean[] {Mode.FIELD, Mode.METHOD}) {
            for (int wrong : Told.outside(0, 7)) {
                refused(check, 0, wrong, method, 3, Mode.PUBLIC);
                refused(check, 1, wrong, method, 3, Mode.PUBLIC);
            }
            for (int wrong : Told.outside(0, 1)) {
                refused(check, wrong, 0, method, 3, Mode.PUBLIC);
                refused(check, wrong, 7, method, 3, Mode.PUBLIC);
            }
        }
    }

    private static void wrongSigns(Check check) {
        check.about(PROMISE, WRONG);
        for (boolean method : new boolean[] {Mode.FIELD, Mode.METHOD}) {
            for (int wrong : Told.outside(0, 11)) {
                refused(check, 0, 0, method, wrong, Mode.PUBLIC);
                refused(check, 1, 0, method, wrong, Mode.PUBLIC);
            }
            // Beside the signs of one kind stand, in some orders, those of the other kind.
            refused(check, 0, 0, method, 23, Mode.PUBLIC);
            refused(check, 0, 0, method, -12, Mode.PUBLIC);
        }
    }

    private static void wrongModes(Check check) {
        check.about(PROMISE, WRONG);
        for (boolean method : new boolean[] {Mode.FIELD, Mode.METHOD}) {
            for (int wrong : Told.outside(0, 31)) {
                refused(check, 0, 0, method, 0, wrong);
                refused(check, 0, 0, method, 7, wrong);
                refused(check, 1, 1, method, 11, wrong);
            }
            refused(check, 0, 0, method, 0, 40);
            refused(check, 0, 0, method, 0, 32 + Mode.PROTECTED);
        }
    }

    private static void notThere(Check check) {
        check.about(PROMISE, "or it is not THERE");
        refused(check, 0, 3, Mode.METHOD, 0, Mode.PUBLIC);
        refused(check, 0, 6, Mode.FIELD, 11, Mode.PUBLIC);
        refused(check, 1, 4, Mode.METHOD, 11, Mode.PUBLIC);
        ReleaseDesk desk = new ReleaseDesk();
        desk.type(0, 2, 0, -1, 0);
        check.no("in the other build", desk.member(1, 2, Mode.METHOD, 0, Mode.PUBLIC));
        check.yes("in its own, seen or not", desk.member(0, 2, Mode.METHOD, 0, Mode.PUBLIC));
        desk.drop(0, 2);
        check.no("of a dropped type", desk.member(0, 2, Mode.METHOD, 0, Mode.PUBLIC));
        desk.type(0, 2, 0, -1, 0);
        check.same("nothing came of it", desk.branch(), 0);
    }
}
