/** THE CHANGES of a type itself, codes 1 to 9, under 'Terms', for promises 12 and 13: each boundary. */
final class TypeChangesEdgesTest {
    private static final String PROMISE = "Promise 12, Terms";

    public static void main(String[] args) {
        Check check = new Check();
        removedOrHidden(check);
        goneAndNothingElse(check);
        added(check);
        addedAndNothingElse(check);
        moved(check);
        turned(check);
        madeAbstract(check);
        madeFinal(check);
        eachThatApplies(check);
        check.end();
    }

    private static void due(Check check, int old, int young, String codes) {
        check.text("flags " + old + " to " + young, Told.allCodes(Single.types(old, young)), codes);
    }

    private static void removedOrHidden(Check check) {
        check.about(PROMISE, "SEEN in OLD, not in NEW: 1 REMOVED if it is not THERE, else 2 HIDDEN");
        for (int flags = 1; flags < 48; flags += 2) {
            due(check, flags, -1, "1");
            for (int young = 0; young < 48; young += 2) {
                due(check, flags, young, "2");
            }
        }
    }

    private static void goneAndNothingElse(Check check) {
        check.about(PROMISE, "else 2 HIDDEN; nothing else");
        for (int young : new int[] {-1, 0, 46}) {
            ReleaseDesk desk = Single.types(1, young);
            desk.type(0, 1, 1, -1, 0);
            desk.type(1, 1, 1, -1, 0);
            desk.type(0, 0, 1, 1, 0);
            desk.member(0, 0, Mode.METHOD, 0, Mode.PUBLIC);
            desk.member(0, 0, Mode.FIELD, 0, Mode.PUBLIC);
            desk.member(1, 0, Mode.FIELD, 0, Mode.PRIVATE);
            desk.member(1, 0, Mode.METHOD, 1, Mode.PUBLIC);
            check.text("a type that had all", Told.allCodes(desk), young == -1 ? "1" : "2");
        }
    }

    private static void added(Check check) {
        check.about(PROMISE, "Not SEEN in OLD, SEEN in NEW: 3 ADDED");
        for (int flags = 1; flags < 48; flags += 2) {
            due(check, -1, flags, "3");
            for (int old = 0; old < 48; old += 2) {
                due(check, old, flags, "3");
            }
        }
    }

    private static void addedAndNothingElse(Check check) {
        check.about(PROMISE, "3 ADDED; nothing else");
        for (int old : new int[] {-1, 0, 46}) {
            ReleaseDesk desk = Single.types(old, 1);
            desk.type(0, 1, 1, -1, 0);
            desk.type(1, 1, 1, -1, 0);
            desk.type(1, 0, 1, 1, 0);
            desk.member(0, 0, Mode.METHOD, 0, Mode.PUBLIC);
            desk.member(1, 0, Mode.METHOD, 1, Mode.PUBLIC);
            desk.member(1, 0, Mode.FIELD, 0, Mode.PUBLIC);
            check.text("a type that has all", Told.allCodes(desk), "3");
        }
    }

    private static void moved(Check check) {
        check.about(PROMISE, "4 MOVED if the PACKAGES differ");
        for (int old = 0; old < 3; old++) {
            for (int young = 0; young < 3; young++) {
                due(check, 16 * old + 1, 16 * young + 1, old == young ? "" : "4");
            }
        }
    }

    private static void turned(Check check) {
        check.about(PROMISE, "5 TURNED if it is an INTERFACE in just one");
        due(check, 1, 1, "");
        due(check, 1, 3, "5");
        due(check, 3, 1, "5");
        due(check, 3, 3, "");
    }

    private static void madeAbstract(Check check) {
        check.about(PROMISE, "6 MADE ABSTRACT, 7 NO MORE ABSTRACT");
        due(check, 1, 5, "6");
        due(check, 5, 1, "7");
        due(check, 5, 5, "");
    }

    private static void madeFinal(Check check) {
        check.about(PROMISE, "8 MADE FINAL, 9 NO MORE FINAL");
        due(check, 1, 9, "8");
        due(check, 9, 1, "9");
        due(check, 9, 9, "");
    }

    private static void eachThatApplies(Check check) {
        check.about(PROMISE, "(Each that applies, in the order in which they stand here.)");
        for (int old = 1; old < 48; old += 2) {
            for (int young = 1; young < 48; young += 2) {
                int lost = old & ~young;
                int won = young & ~old;
                String codes = (old / 16 != young / 16 ? " 4" : "")
                    + (((lost | won) & Mode.INTERFACE) > 0 ? " 5" : "")
                    + ((won & Mode.ABSTRACT_TYPE) > 0 ? " 6" : "")
                    + ((lost & Mode.ABSTRACT_TYPE) > 0 ? " 7" : "")
                    + ((won & Mode.FINAL_TYPE) > 0 ? " 8" : "")
                    + ((lost & Mode.FINAL_TYPE) > 0 ? " 9" : "");
                due(check, old, young, codes.trim());
            }
        }
        ReleaseDesk desk = Single.types(1, 1);
        desk.type(0, 1, 1, -1, 0);
        desk.type(0, 2, 1, -1, 0);
        desk.branch();
        desk.type(0, 0, 1, 1, 0);
        desk.type(1, 0, 47, 2, 0);
        check.text("with those of the types above", Told.allCodes(desk), "4 5 6 8 10 11");
    }
}
