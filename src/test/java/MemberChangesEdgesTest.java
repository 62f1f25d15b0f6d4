/** THE CHANGES of members, codes 20 to 33, under 'Terms', for promises 12 and 13: each boundary. */
final class MemberChangesEdgesTest {
    private static final String PROMISE = "Promise 12, Terms";
    private static final String INHERITED = "21 INHERITED if a TYPE ABOVE t in NEW has one of this kind"
        + " and SIGN that is SEEN, with ACCESS not less than it had";
    private static final boolean[] KINDS = {Mode.FIELD, Mode.METHOD};
    private static final int OPEN = Mode.PUBLIC;

    public static void main(String[] args) {
        Check check = new Check();
        removed(check);
        inheritedAccess(check);
        inheritedFromAbove(check);
        inheritedFromEachType(check);
        inheritedWhereAboveInNew(check);
        inheritedOfThisKindAndSign(check);
        inheritedIfSeen(check);
        lessAccessIfThere(check);
        added(check);
        addedAbstract(check);
        access(check);
        madeStatic(check);
        madeFinal(check);
        madeAbstract(check);
        constants(check);
        constantsOfFieldsSeen(check);
        eachThatApplies(check);
        check.end();
    }

    private static void due(Check check, boolean method, int old, int young, String codes) {
        check.text((method ? "method " : "field ") + old + " to " + young,
            Told.allCodes(Single.members(method, old, young)), codes);
    }

    private static void removed(Check check) {
        check.about(PROMISE, "SEEN in OLD, and not in NEW: 20 REMOVED if it is not there");
        for (boolean method : KINDS) {
            for (int old = 0; old < 32; old++) {
                due(check, method, old, -1, old >= Mode.PROTECTED ? "20" : "");
            }
        }
    }

    /** Type 0 has lost its member of sign 4; type 1 is its super, seen, and has it in this mode. */
    private static ReleaseDesk orphan(boolean method, int mode, int modeAbove) {
        ReleaseDesk desk = new ReleaseDesk();
        desk.type(0, 0, Mode.PUBLIC_TYPE, 1, 0);
        desk.type(0, 1, Mode.PUBLIC_TYPE, -1, 0);
        desk.member(0, 1, method, 4, modeAbove);
        desk.branch();
        desk.member(0, 0, method, 4, mode);
        return desk;
    }

    private static void inheritedAccess(Check check) {
        check.about(PROMISE, INHERITED);
        for (boolean method : KINDS) {
            for (int mode = Mode.PROTECTED; mode < 32; mode++) {
                for (int modeAbove = 0; modeAbove < 32; modeAbove++) {
                    boolean enough = modeAbove >= Mode.PROTECTED && modeAbove / 8 >= mode / 8;
                    check.text("mode " + mode + " with " + modeAbove + " above",
                        Told.allCodes(orphan(method, mode, modeAbove)), enough ? "21" : "20");
                }
            }
        }
    }

    private static void inheritedFromAbove(Check check) {
        check.about(PROMISE, INHERITED);
        for (int first = 1; first < 8; first++) {
            ReleaseDesk desk = new ReleaseDesk();
            desk.type(0, 0, 1, -1, 0);
            for (int t = 1; t < 8; t++) {
                desk.type(0, t, 1, t == 7 ? -1 : t + 1, 0);
                desk.member(0, t, Mode.METHOD, 0, t == 7 ? OPEN : Mode.PROTECTED);
            }
            desk.type(0, 0, 1, first, 0);
            desk.branch();
            desk.member(0, 0, Mode.METHOD, 0, OPEN);
            check.text("the last of " + (8 - first) + " above has enough access", Told.allCodes(desk),
                "21");
            desk.member(1, 7, Mode.METHOD, 0, Mode.PROTECTED);
            desk.member(0, 7, Mode.METHOD, 0, Mode.PROTECTED);
            check.text("none of them has", Told.allCodes(desk), "20");
        }
    }

    private static void inheritedFromEachType(Check check) {
        check.about(PROMISE, INHERITED);
        for (int t = 0; t < 8; t++) {
            for (int above = 0; above < 8; above++) {
                ReleaseDesk desk = new ReleaseDesk();
                desk.type(0, above, 1, -1, 0);
                desk.member(0, above, Mode.FIELD, 0, OPEN);
                desk.type(0, t, 1, -1, 1 << above);
                desk.branch();
                desk.remove(1, t, Mode.FIELD, 0);
                desk.member(0, t, Mode.FIELD, 0, OPEN);
                check.text("type " + t + " from type " + above, Told.allCodes(desk),
                    t == above ? "20" : "21");
            }
        }
    }

    private static void inheritedWhereAboveInNew(Check check) {
        check.about(PROMISE, "21 INHERITED if a TYPE ABOVE t in NEW has one");
        ReleaseDesk desk = orphan(Mode.METHOD, OPEN, OPEN);
        desk.remove(0, 1, Mode.METHOD, 4);
        check.text("the one above has it in NEW alone", Told.allCodes(desk), "21 23");
        desk.member(0, 1, Mode.METHOD, 4, OPEN);
        desk.remove(1, 1, Mode.METHOD, 4);
        check.text("the one above has it in OLD alone", Told.allCodes(desk), "20 20");
        desk = orphan(Mode.METHOD, OPEN, OPEN);
        desk.type(0, 0, 1, -1, 0);
        check.text("it is above in NEW alone", Told.allCodes(desk), "11 21");
        desk.type(1, 0, 1, -1, 0);
        desk.type(0, 0, 1, 1, 0);
        check.text("it was above in OLD alone", Told.allCodes(desk), "10 20");
        desk = orphan(Mode.METHOD, OPEN, OPEN);
        desk.drop(1, 1);
        check.text("it is not there in NEW", Told.allCodes(desk), "10 20 1");
        desk = orphan(Mode.METHOD, OPEN, OPEN);
        desk.type(0, 0, 1, -1, 0);
        desk.type(0, 1, 1, 0, 0);
        desk.branch();
        desk.remove(1, 0, Mode.METHOD, 4);
        check.text("it is below", Told.allCodes(desk), "20");
    }

    private static void inheritedOfThisKindAndSign(Check check) {
        check.about(PROMISE, "has one of this kind and SIGN");
        for (boolean method : KINDS) {
            ReleaseDesk desk = orphan(method, OPEN, OPEN);
            check.text("the same", Told.allCodes(desk), "21");
            for (boolean kind : KINDS) {
                for (int sign = 0; sign < 12; sign++) {
                    desk = orphan(method, OPEN, Mode.PRIVATE);
                    desk.member(0, 1, kind, sign, OPEN);
                    desk.member(1, 1, kind, sign, OPEN);
                    check.text("sign " + sign + " above", Told.allCodes(desk),
                        kind == method && sign == 4 ? "21" : "20");
                }
            }
        }
    }

    private static void inheritedIfSeen(Check check) {
        check.about(PROMISE, "that is SEEN, with ACCESS not less than it had");
        for (boolean method : KINDS) {
            ReleaseDesk desk = orphan(method, Mode.PROTECTED, Mode.PROTECTED);
            check.text("protected", Told.allCodes(desk), "21");
            desk.type(1, 1, 9, -1, 0);
            desk.type(0, 1, 9, -1, 0);
            check.text("protected in a final type", Told.allCodes(desk), "20");
            desk.type(1, 1, 0, -1, 0);
            desk.type(0, 1, 0, -1, 0);
            check.text("in a type that is not seen", Told.allCodes(desk), "20");
            desk = orphan(method, Mode.PROTECTED, OPEN);
            desk.type(1, 1, 9, -1, 0);
            desk.type(0, 1, 9, -1, 0);
            check.text("public in a final type", Told.allCodes(desk), "21");
        }
    }

    private static void lessAccessIfThere(Check check) {
        check.about(PROMISE, "22 LESS ACCESS if it is there");
        for (boolean method : KINDS) {
            for (int old = Mode.PROTECTED; old < 32; old++) {
                for (int young = 0; young < Mode.PROTECTED; young++) {
                    due(check, method, old, young, "22");
                }
            }
            ReleaseDesk desk = orphan(method, OPEN, OPEN);
            desk.member(1, 0, method, 4, Mode.PRIVATE);
            check.text("though there is one above", Told.allCodes(desk), "22");
            desk = Single.members(method, Mode.PROTECTED, Mode.PROTECTED | 7);
            desk.type(1, 0, 9, -1, 0);
            check.text("protected in a type made final, and no flags besides", Told.allCodes(desk), "8 22");
        }
    }

    private static void added(Check check) {
        check.about(PROMISE, "else 23 ADDED");
        for (boolean method : KINDS) {
            for (int young = Mode.PROTECTED; young < 32; young++) {
                boolean needed = method && (young & Mode.ABSTRACT) > 0;
                due(check, method, -1, young, needed ? "24" : "23");
                due(check, method, Mode.PACKAGE, young, needed ? "24" : "23");
                due(check, method, Mode.PRIVATE | 7, young, needed ? "24" : "23");
            }
            for (int young = 0; young < Mode.PROTECTED; young++) {
                due(check, method, -1, young, "");
            }
        }
    }

    private static void addedAbstract(Check check) {
        check.about(PROMISE, "24 if it is a METHOD that is ABSTRACT");
        due(check, Mode.METHOD, -1, OPEN | Mode.ABSTRACT, "24");
        due(check, Mode.FIELD, -1, OPEN | Mode.ABSTRACT, "23");
        due(check, Mode.METHOD, Mode.PRIVATE | Mode.ABSTRACT, OPEN, "23");
        ReleaseDesk desk = Single.members(Mode.FIELD, Mode.PRIVATE, OPEN);
        desk.constant(1, 0, 0, 1);
        check.text("an added field has no change of its constant", Told.allCodes(desk), "23");
    }

    private static void access(Check check) {
        check.about(PROMISE, "SEEN in both: 22 LESS ACCESS, 25 MORE ACCESS");
        for (boolean method : KINDS) {
            due(check, method, OPEN, OPEN, "");
            due(check, method, OPEN, Mode.PROTECTED, "22");
            due(check, method, Mode.PROTECTED, OPEN, "25");
            due(check, method, Mode.PROTECTED, Mode.PROTECTED, "");
        }
    }

    private static void madeStatic(Check check) {
        check.about(PROMISE, "26 if it is STATIC in just one");
        for (boolean method : KINDS) {
            due(check, method, OPEN, OPEN | Mode.STATIC, "26");
            due(check, method, OPEN | Mode.STATIC, OPEN, "26");
            due(check, method, OPEN | Mode.STATIC, OPEN | Mode.STATIC, "");
        }
    }

    private static void madeFinal(Check check) {
        check.about(PROMISE, "27 MADE FINAL, 28 NO MORE FINAL");
        for (boolean method : KINDS) {
            due(check, method, OPEN, OPEN | Mode.FINAL, "27");
            due(check, method, OPEN | Mode.FINAL, OPEN, "28");
            due(check, method, OPEN | Mode.FINAL, OPEN | Mode.FINAL, "");
        }
    }

    private static void madeAbstract(Check check) {
        check.about(PROMISE, "for a METHOD 29 MADE ABSTRACT, 30 NO MORE ABSTRACT");
        due(check, Mode.METHOD, OPEN, OPEN | Mode.ABSTRACT, "29");
        due(check, Mode.METHOD, OPEN | Mode.ABSTRACT, OPEN, "30");
        due(check, Mode.METHOD, OPEN | Mode.ABSTRACT, OPEN | Mode.ABSTRACT, "");
        due(check, Mode.FIELD, OPEN, OPEN | Mode.ABSTRACT, "");
        due(check, Mode.FIELD, OPEN | Mode.ABSTRACT, OPEN, "");
    }

    private static void constants(Check check) {
        check.about(PROMISE, "for a FIELD 31 if its CONSTANTS are different ones,"
            + " 32 if it has none any more, 33 if it has one now");
        ReleaseDesk desk = Single.members(Mode.FIELD, OPEN, OPEN);
        check.text("none in both", Told.allCodes(desk), "");
        desk.constant(1, 0, 0, 0);
        check.text("zero now", Told.allCodes(desk), "33");
        desk.constant(0, 0, 0, 0);
        check.text("zero in both", Told.allCodes(desk), "");
        desk.member(1, 0, Mode.FIELD, 0, OPEN);
        check.text("zero no more", Told.allCodes(desk), "32");
        double[][] pairs = {{0, Double.MIN_VALUE}, {0, -Double.MIN_VALUE}, {1, Math.nextUp(1.0)},
            {-1, 1}, {Double.MAX_VALUE, Math.nextDown(Double.MAX_VALUE)}, {1e15, 1e15 + 0.125}};
        for (double[] pair : pairs) {
            desk.constant(0, 0, 0, pair[0]);
            desk.constant(1, 0, 0, pair[1]);
            check.text(pair[0] + " and " + pair[1], Told.allCodes(desk), "31");
            desk.constant(0, 0, 0, pair[1]);
            check.text(pair[1] + " twice", Told.allCodes(desk), "");
        }
    }

    private static void constantsOfFieldsSeen(Check check) {
        check.about(PROMISE, "SEEN in both");
        ReleaseDesk desk = Single.members(Mode.FIELD, Mode.PACKAGE, Mode.PACKAGE);
        desk.constant(0, 0, 0, 1);
        desk.constant(1, 0, 0, 2);
        check.text("a field seen in neither", Told.allCodes(desk), "");
        desk.member(0, 0, Mode.FIELD, 0, OPEN);
        desk.constant(0, 0, 0, 1);
        check.text("a field seen in OLD alone", Told.allCodes(desk), "22");
    }

    private static void eachThatApplies(Check check) {
        check.about(PROMISE, "(Each that applies, in the order in which they stand here.)");
        for (boolean method : KINDS) {
            for (int old = Mode.PROTECTED; old < 32; old++) {
                for (int young = Mode.PROTECTED; young < 32; young++) {
                    int lost = old & ~young;
                    int won = young & ~old;
                    String codes = (young / 8 < old / 8 ? " 22" : "") + (young / 8 > old / 8 ? " 25" : "")
                        + (((lost | won) & Mode.STATIC) > 0 ? " 26" : "")
                        + ((won & Mode.FINAL) > 0 ? " 27" : "") + ((lost & Mode.FINAL) > 0 ? " 28" : "")
                        + (method && (won & Mode.ABSTRACT) > 0 ? " 29" : "")
                        + (method && (lost & Mode.ABSTRACT) > 0 ? " 30" : "");
                    due(check, method, old, young, codes.trim());
                }
            }
        }
        ReleaseDesk desk = Single.members(Mode.FIELD, OPEN | Mode.FINAL, Mode.PROTECTED | Mode.STATIC);
        desk.constant(0, 0, 0, 1);
        check.text("with a constant lost", Told.allCodes(desk), "22 26 28 32");
        desk.constant(1, 0, 0, 2);
        check.text("with a constant changed", Told.allCodes(desk), "22 26 28 31");
        desk.member(0, 0, Mode.FIELD, 0, OPEN | Mode.FINAL);
        check.text("with a constant won", Told.allCodes(desk), "22 26 28 33");
    }
}
