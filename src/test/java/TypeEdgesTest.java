/** Promise 2, each of its words that name a boundary. */
final class TypeEdgesTest {
    private static final String PROMISE = "Promise 2";
    private static final String WRONG = "False if a number is not as said";
    private static final int PUBLIC = Mode.PUBLIC_TYPE;

    public static void main(String[] args) {
        Check check = new Check();
        types(check);
        builds(check);
        packages(check);
        flags(check);
        supers(check);
        superNotThere(check);
        noSuper(check);
        faces(check);
        keepsMembers(check);
        keepsNoneOfADroppedType(check);
        takesThePlace(check);
        wrongPlaces(check);
        wrongFlags(check);
        wrongSupers(check);
        wrongFaces(check);
        check.end();
    }

    private static void types(Check check) {
        check.about(PROMISE, "TYPE t (0 to 7) of a BUILD");
        for (int t : new int[] {0, 7}) {
            ReleaseDesk desk = new ReleaseDesk();
            check.yes("type " + t, desk.type(0, t, PUBLIC, -1, 0));
            check.same("list", desk.list(), 1);
            check.same("the type of the change", desk.change(0, 2), t);
            for (int u = 0; u < 8; u++) {
                check.same("drop of type " + u, Told.bit(desk.drop(0, u)), u == t ? 1 : 0);
            }
        }
    }

    private static void builds(Check check) {
        check.about(PROMISE, "of a BUILD (0, 1) is THERE");
        for (int build = 0; build < 2; build++) {
            ReleaseDesk desk = new ReleaseDesk();
            check.yes("type in " + build, desk.type(build, 4, PUBLIC, -1, 0));
            check.same("fits in " + build, desk.fits(build, 4, Mode.METHOD, -1), 0);
            check.same("fits in the other", desk.fits(1 - build, 4, Mode.METHOD, -1), ReleaseDesk.NONE);
            check.same("the code", desk.change(0, 0), build == 0 ? 1 : 3);
        }
    }

    private static void packages(Check check) {
        check.about(PROMISE, "flags 16 times the PACKAGE (0 to 2)");
        int[] flags = {0, 15, 16, 31, 32, 47};
        for (int k = 0; k < flags.length; k++) {
            ReleaseDesk desk = new ReleaseDesk();
            check.yes("flags " + flags[k], desk.type(1, 3, flags[k], -1, 0));
            Told.spell(desk, "abc".charAt(k / 2) + ".D");
            check.same("fits with flags " + flags[k], desk.fits(1, 3, Mode.METHOD, -1), 1);
        }
    }

    private static void flags(Check check) {
        check.about(PROMISE, "and its FLAGS");
        for (int flags = 0; flags < 48; flags++) {
            ReleaseDesk desk = new ReleaseDesk();
            desk.type(0, 5, flags, -1, 0);
            desk.type(1, 5, PUBLIC, -1, 0);
            String due = flags / 16 > 0 ? " 4" : "";
            due += (flags & Mode.INTERFACE) > 0 ? " 5" : "";
            due += (flags & Mode.ABSTRACT_TYPE) > 0 ? " 7" : "";
            due += (flags & Mode.FINAL_TYPE) > 0 ? " 9" : "";
            boolean seen = (flags & PUBLIC) > 0;
            check.text("changes from flags " + flags, Told.allCodes(desk), seen ? due.trim() : "3");
        }
    }

    /** Types 0 to 7 in both builds, of which in NEW only one is seen beside type 3. */
    private static ReleaseDesk oneSeen(int seen) {
        ReleaseDesk desk = new ReleaseDesk();
        for (int t = 0; t < 8; t++) {
            desk.type(0, t, t == 3 ? PUBLIC : 0, -1, 0);
            desk.type(1, t, t == 3 || t == seen ? PUBLIC : 0, -1, 0);
        }
        Told.rule(desk, "*", 3, 3, 0);
        return desk;
    }

    private static void supers(Check check) {
        check.about(PROMISE, "SUPER above (0 to 7");
        for (int above : new int[] {0, 1, 6, 7}) {
            for (int seen = 0; seen < 8; seen++) {
                ReleaseDesk desk = oneSeen(seen);
                check.yes("super " + above, desk.type(1, 3, PUBLIC, above, 0));
                check.text("super " + above + " where " + seen + " is seen", Told.codes(desk),
                    seen == above ? "11" : "");
            }
        }
    }

    private static void superNotThere(Check check) {
        check.about(PROMISE, "THERE or not");
        ReleaseDesk desk = Mode.deskWithType();
        check.yes("a super that is not there", desk.type(1, 0, PUBLIC, 7, 0));
        check.text("is not above", Told.codes(desk), "");
        desk.type(1, 7, PUBLIC, -1, 0);
        check.text("is above when it comes", Told.codes(desk), "11 3");
        desk.drop(1, 7);
        check.text("is not when it goes", Told.codes(desk), "");
        check.yes("a super that is the type itself, new", desk.type(0, 5, 0, 5, 0));
        check.yes("and again", desk.type(0, 5, 0, 5, 32));
    }

    private static void noSuper(Check check) {
        check.about(PROMISE, "-1 for none");
        ReleaseDesk desk = new ReleaseDesk();
        for (int t = 0; t < 8; t++) {
            desk.type(0, t, PUBLIC, -1, 0);
        }
        desk.branch();
        for (int above = 0; above < 8; above++) {
            desk.type(0, 2, PUBLIC, above, 0);
            check.text("from super " + above + " to none", Told.codes(desk), above == 2 ? "" : "10");
        }
        check.yes("none again", desk.type(0, 2, PUBLIC, -1, 0));
        check.text("from none to none", Told.codes(desk), "");
    }

    private static void faces(Check check) {
        check.about(PROMISE, "FACES (0 to 255)");
        for (int faces : new int[] {0, 1, 2, 4, 16, 32, 64, 127, 128, 254, 255}) {
            for (int seen = 0; seen < 8; seen++) {
                ReleaseDesk desk = oneSeen(seen);
                check.yes("faces " + faces, desk.type(1, 3, PUBLIC, -1, faces));
                boolean won = seen != 3 && (faces >> seen & 1) == 1;
                check.text("faces " + faces + " where " + seen + " is seen", Told.codes(desk),
                    won ? "11" : "");
            }
        }
    }

    private static void keepsMembers(Check check) {
        check.about(PROMISE, "it keeps the MEMBERS that it had, if it was THERE");
        for (int build = 0; build < 2; build++) {
            ReleaseDesk desk = new ReleaseDesk();
            desk.type(build, 7, PUBLIC, -1, 0);
            for (int sign = 0; sign < 12; sign++) {
                desk.member(build, 7, Mode.FIELD, sign, Mode.PUBLIC);
                desk.member(build, 7, Mode.METHOD, sign, Mode.PUBLIC);
            }
            desk.constant(build, 7, 11, 2.5);
            desk.constant(build, 7, 0, 1);
            check.yes("type again", desk.type(build, 7, 1 + 16, 3, 9));
            desk.type(1 - build, 7, PUBLIC | Mode.PACKAGE_B, 3, 9);
            for (int sign = 0; sign < 12; sign += 11) {
                desk.member(1 - build, 7, Mode.FIELD, sign, Mode.PUBLIC);
                desk.constant(1 - build, 7, sign, 1);
            }
            check.same("the constants that changed", desk.change(build == 0 ? 22 : 0, 0), 31);
            check.number("by", desk.shift(build == 0 ? 22 : 0), build == 0 ? -1.5 : 1.5);
            for (int sign = 0; sign < 12; sign++) {
                check.yes("field " + sign, desk.remove(build, 7, Mode.FIELD, sign));
                check.yes("method " + sign, desk.remove(build, 7, Mode.METHOD, sign));
            }
        }
    }

    private static void keepsNoneOfADroppedType(Check check) {
        check.about(PROMISE, "if it was THERE");
        ReleaseDesk desk = new ReleaseDesk();
        desk.type(0, 7, PUBLIC, -1, 0);
        desk.member(0, 7, Mode.FIELD, 0, Mode.PUBLIC);
        desk.member(0, 7, Mode.METHOD, 11, Mode.PUBLIC);
        desk.drop(0, 7);
        desk.type(0, 7, PUBLIC, -1, 0);
        check.same("members after drop and type", desk.branch(), 0);
    }

    private static void takesThePlace(Check check) {
        check.about(PROMISE, "TYPE t (0 to 7) of a BUILD (0, 1) is THERE: flags");
        ReleaseDesk desk = new ReleaseDesk();
        for (int t = 1; t < 8; t++) {
            desk.type(0, t, PUBLIC, -1, 0);
        }
        desk.type(0, 0, 47, 1, 4 + 8);
        desk.type(0, 0, PUBLIC, 5, 64);
        desk.branch();
        desk.type(1, 0, PUBLIC, 5, 64);
        check.text("the last call alone counts", Told.allCodes(desk), "");
        desk.type(1, 0, PUBLIC, 5, 0);
        check.text("so a face is gone", Told.allCodes(desk), "10");
        desk.type(1, 0, PUBLIC, 5, 64 + 4);
        check.text("so an older face is new", Told.allCodes(desk), "11");
        desk.type(1, 0, PUBLIC, 1, 64);
        check.text("so the older super is new", Told.allCodes(desk), "10 11");
    }

    private static void refused(Check check, int build, int t, int flags, int above, int faces) {
        String told = "type(" + build + ", " + t + ", " + flags + ", " + above + ", " + faces + ")";
        Unchanged.by(check, told, 0, desk -> Told.bit(desk.type(build, t, flags, above, faces)));
    }

    private static void wrongPlaces(Check check) {
        check.about(PROMISE, WRONG);
        for (int t : Told.outside(0, 7)) {
            refused(check, 0, t, PUBLIC, -1, 0);
            refused(check, 1, t, 47, 7, 255);
        }
        for (int build : Told.outside(0, 1)) {
            refused(check, build, 0, PUBLIC, -1, 0);
            refused(check, build, 7, 47, 7, 255);
        }
    }

    // Besides the wrong number, the calls bear others than those that the types have.

    private static void wrongFlags(Check check) {
        check.about(PROMISE, WRONG);
        for (int wrong : Told.outside(0, 47)) {
            refused(check, 0, 0, wrong, -1, 0);
            refused(check, 0, 1, wrong, 2, 255);
            refused(check, 1, 0, wrong, 2, 255);
            refused(check, 1, 5, wrong, 2, 255);
        }
    }

    private static void wrongSupers(Check check) {
        check.about(PROMISE, WRONG);
        for (int wrong : Told.outside(-1, 7)) {
            refused(check, 0, 0, PUBLIC, wrong, 0);
            refused(check, 0, 1, 31, wrong, 255);
            refused(check, 1, 0, 46, wrong, 255);
            refused(check, 1, 5, PUBLIC, wrong, 255);
        }
    }

    private static void wrongFaces(Check check) {
        check.about(PROMISE, WRONG);
        for (int wrong : Told.outside(0, 255)) {
            refused(check, 0, 0, PUBLIC, -1, wrong);
            refused(check, 0, 1, 31, 2, wrong);
            refused(check, 1, 0, 46, 2, wrong);
            refused(check, 1, 5, PUBLIC, 2, wrong);
        }
    }
}
