/** The catalogue of changes under the document's 'Terms': each code by itself, and what keeps it away. */
final class CatalogueTest {
    private static final Check CHECK = new Check();

    public static void main(String[] args) {
        sightOfTypes();
        types();
        ways();
        sightOfMembers();
        inherited();
        members();
        constants();
        CHECK.end();
    }

    /** Codes of the list where a rule gives every change the same weight, so that none is silent. */
    private static String heard(ReleaseDesk desk) {
        Told.rule(desk, "*", 1, 33, 1);
        String codes = Told.codes(desk);
        desk.clear();
        return codes;
    }

    private static void due(String what, ReleaseDesk desk, String codes) {
        CHECK.text(what, heard(desk), codes);
    }

    /** Type 0 with these flags in OLD and NEW; -1: it is not there. */
    private static ReleaseDesk types(int old, int young) {
        ReleaseDesk desk = new ReleaseDesk();
        if (old >= 0) {
            desk.type(0, 0, old, -1, 0);
        }
        if (young >= 0) {
            desk.type(1, 0, young, -1, 0);
        }
        return desk;
    }

    /** A public type with one member of these modes in OLD and NEW; -1: it is not there. */
    private static ReleaseDesk members(boolean method, int old, int young) {
        ReleaseDesk desk = Mode.deskWithType();
        if (old >= 0) {
            desk.member(0, 0, method, 0, old);
        }
        if (young >= 0) {
            desk.member(1, 0, method, 0, young);
        }
        return desk;
    }

    private static void sightOfTypes() {
        due("removed", types(1, -1), "1");
        due("hidden", types(1, 0), "2");
        due("hidden and nothing else", types(1, 16 + 14), "2");
        due("added", types(-1, 1), "3");
        due("added where one was not seen", types(0, 1), "3");
        due("added and nothing else", types(16 + 14, 1), "3");
        due("never seen", types(0, 16 + 14), "");
        due("never seen, gone", types(0, -1), "");
        due("never seen, come", types(-1, 0), "");

        ReleaseDesk desk = types(1, 0);
        desk.member(0, 0, true, 0, Mode.PUBLIC);
        due("no changes of members of a hidden type", desk, "2");
        desk = types(0, 1);
        desk.member(1, 0, true, 0, Mode.PUBLIC);
        due("no changes of members of an added type", desk, "3");
    }

    private static void types() {
        due("unchanged", types(47, 47), "");
        due("moved", types(1, 17), "4");
        due("moved back", types(33, 17), "4");
        due("turned into an interface", types(1, 3), "5");
        due("turned into a class", types(3, 1), "5");
        due("made abstract", types(1, 5), "6");
        due("no more abstract", types(5, 1), "7");
        due("made final", types(1, 9), "8");
        due("no more final", types(9, 1), "9");
        due("all of them", types(1, 31), "4 5 6 8");
        due("all of them back", types(31, 1), "4 5 7 9");
    }

    /** Types 0 to 4 public in both builds, without supers and faces. */
    private static ReleaseDesk five() {
        ReleaseDesk desk = new ReleaseDesk();
        for (int t = 0; t < 5; t++) {
            desk.type(0, t, 1, -1, 0);
        }
        desk.branch();
        return desk;
    }

    private static void ways() {
        ReleaseDesk desk = five();
        desk.type(0, 0, 1, 1, 2 + 4 + 8);
        due("lost, once", desk, "10");
        desk.type(1, 0, 1, 2, 8 + 16);
        due("lost one, won one", desk, "10 11");
        desk.type(0, 0, 1, -1, 0);
        due("won, once", desk, "11");

        desk = five();
        desk.type(0, 0, 1, 4, 0);
        desk.type(1, 0, 1, -1, 16);
        due("a super that became a face", desk, "");
        desk.type(1, 0, 1, 3, 0);
        desk.type(1, 3, 0, 4, 0);
        due("a way over one that is not seen", desk, "2");
        desk.drop(1, 3);
        due("none over one that is not there", desk, "10 1");

        desk = five();
        desk.type(0, 0, 1, 1, 0);
        desk.type(0, 1, 1, 2, 0);
        desk.type(0, 2, 1, 3, 0);
        desk.type(0, 3, 1, 4, 0);
        desk.type(0, 4, 1, 0, 0);
        due("a ring: each has all others above", desk, "10 10 10 10 10");
        desk.type(1, 0, 1, 0, 0);
        desk.type(0, 4, 1, 4, 16);
        desk.type(0, 3, 1, -1, 0);
        due("itself does not count", desk, "10 10 10");

        desk = five();
        desk.type(0, 4, 1, 0, 0);
        desk.type(0, 0, 0, -1, 0);
        desk.type(1, 0, 0, -1, 0);
        due("one not seen in OLD is not lost, be it the first", desk, "");

        desk = five();
        desk.type(0, 4, 0, -1, 0);
        desk.type(0, 0, 1, 4, 0);
        due("one not seen in OLD is not lost, and one seen in NEW is added", desk, "3");
        desk.type(1, 0, 1, 4, 0);
        due("it was above, so it is not won either", desk, "3");
        desk.type(0, 0, 1, -1, 0);
        due("won, though not seen in OLD", desk, "11 3");
        desk.type(1, 4, 0, -1, 0);
        due("not won where not seen in NEW", desk, "");

        longWay();
    }

    private static void longWay() {
        ReleaseDesk desk = new ReleaseDesk();
        for (int t = 7; t > 0; t--) {
            desk.type(0, t, t == 1 ? 1 : 0, t == 7 ? 0 : t + 1, 0);
        }
        desk.type(0, 0, 1, -1, 0);
        desk.branch();
        desk.type(1, 7, 0, -1, 0);
        due("a way over all types", desk, "10");
    }

    private static void sightOfMembers() {
        for (boolean method : new boolean[] {false, true}) {
            due("removed", members(method, Mode.PUBLIC, -1), "20");
            due("removed protected", members(method, Mode.PROTECTED, -1), "20");
            due("removed not seen", members(method, Mode.PACKAGE, -1), "");
            due("hidden", members(method, Mode.PUBLIC + 7, Mode.PACKAGE), "22");
            due("hidden more", members(method, Mode.PROTECTED, Mode.PRIVATE), "22");
            due("added", members(method, -1, Mode.PUBLIC), "23");
            due("added protected", members(method, -1, Mode.PROTECTED + 5), "23");
            due("added not seen", members(method, -1, Mode.PACKAGE), "");
            due("added where one was not seen", members(method, Mode.PRIVATE, Mode.PUBLIC), "23");
            due("never seen", members(method, Mode.PRIVATE, Mode.PACKAGE + 7), "");
        }
        due("an abstract method", members(true, -1, Mode.PUBLIC + Mode.ABSTRACT), "24");
        due("one in place of one not seen", members(true, Mode.PACKAGE + 2, Mode.PROTECTED + 2), "24");
        due("an abstract field", members(false, -1, Mode.PUBLIC + Mode.ABSTRACT), "23");

        ReleaseDesk desk = members(true, Mode.PROTECTED, Mode.PROTECTED);
        desk.type(1, 0, 9, -1, 0);
        due("protected in a type made final", desk, "8 22");
        desk.type(0, 0, 9, -1, 0);
        due("protected in a final type", desk, "");
        desk.type(1, 0, 1, -1, 0);
        due("protected in a type no more final", desk, "9 23");
        desk.member(0, 0, true, 0, Mode.PUBLIC);
        due("public in a final type is seen", desk, "9 22");
    }

    /** Type 0 lost its protected method of sign 0; type 1 stands above it in NEW. */
    private static ReleaseDesk orphan(int flagsAbove, int modeAbove) {
        ReleaseDesk desk = new ReleaseDesk();
        desk.type(0, 0, 1, 2, 0);
        desk.type(0, 2, 0, 1, 0);
        desk.type(0, 1, flagsAbove, -1, 0);
        desk.member(0, 1, true, 0, modeAbove);
        desk.branch();
        desk.member(0, 0, true, 0, Mode.PROTECTED);
        return desk;
    }

    private static void inherited() {
        due("from afar", orphan(1, Mode.PUBLIC), "21");
        due("of the same access", orphan(1, Mode.PROTECTED), "21");
        due("not of less", orphan(1, Mode.PACKAGE), "20");
        due("not from a type not seen", orphan(0, Mode.PUBLIC), "20");
        due("not protected from a final type", orphan(9, Mode.PROTECTED), "20");
        due("public from a final type", orphan(9, Mode.PUBLIC), "21");

        ReleaseDesk desk = orphan(1, Mode.PROTECTED);
        desk.member(0, 0, true, 0, Mode.PUBLIC);
        due("not with less access than it had", desk, "20");
        desk.type(1, 0, 1, -1, 2);
        due("from a face neither", desk, "20");
        desk.member(1, 1, true, 0, Mode.PUBLIC);
        due("from a face", desk, "21 25");
        desk.type(1, 0, 1, -1, 0);
        due("not from one that is not above in NEW", desk, "10 20 25");

        desk = orphan(1, Mode.PUBLIC);
        desk.member(1, 0, true, 0, Mode.PRIVATE);
        due("not where it is there", desk, "22");
        desk = orphan(1, Mode.PUBLIC);
        desk.member(0, 0, true, 1, Mode.PROTECTED);
        due("not another sign", desk, "21 20");
        desk.member(0, 0, false, 0, Mode.PROTECTED);
        due("not another kind", desk, "21 20 20");
        desk = orphan(1, Mode.PUBLIC);
        desk.drop(1, 2);
        due("not over one that is not there", desk, "10 20");
        desk = orphan(1, Mode.PROTECTED);
        desk.type(1, 1, 9, -1, 0);
        due("not what is seen in OLD alone", desk, "20 8 22");

        desk = new ReleaseDesk();
        desk.type(0, 0, 1, -1, 0);
        desk.type(0, 7, 1, 0, 0);
        desk.member(0, 0, false, 11, Mode.PUBLIC);
        desk.branch();
        desk.member(0, 7, false, 11, Mode.PUBLIC);
        due("a field, from the first type", desk, "21");
    }

    private static void members() {
        int at = Mode.PUBLIC;
        for (boolean method : new boolean[] {false, true}) {
            due("unchanged", members(method, at + 7, at + 7), "");
            due("less access", members(method, at, Mode.PROTECTED), "22");
            due("more access", members(method, Mode.PROTECTED, at), "25");
            due("made static", members(method, at, at + Mode.STATIC), "26");
            due("no more static", members(method, at + Mode.STATIC, at), "26");
            due("made final", members(method, at, at + Mode.FINAL), "27");
            due("no more final", members(method, at + Mode.FINAL, at), "28");
        }
        due("made abstract", members(true, at, at + Mode.ABSTRACT), "29");
        due("no more abstract", members(true, at + Mode.ABSTRACT, at), "30");
        due("a field made abstract", members(false, at, at + Mode.ABSTRACT), "");
        due("a field no more abstract", members(false, at + Mode.ABSTRACT, at), "");
        due("all of a method", members(true, at, Mode.PROTECTED + 7), "22 26 27 29");
        due("all of a method back", members(true, Mode.PROTECTED + 7, at), "25 26 28 30");
    }

    private static void constants() {
        ReleaseDesk desk = members(false, Mode.PUBLIC, Mode.PUBLIC);
        desk.constant(0, 0, 0, 1);
        due("lost", desk, "32");
        desk.constant(1, 0, 0, 1);
        due("the same", desk, "");
        desk.constant(1, 0, 0, Math.nextUp(1.0));
        due("a little greater", desk, "31");
        desk.member(0, 0, false, 0, Mode.PROTECTED + 7);
        due("won, with all else", desk, "25 26 28 33");
        desk.constant(0, 0, 0, 0);
        due("changed, with all else", desk, "25 26 28 31");
        desk.member(0, 0, false, 0, Mode.PACKAGE);
        desk.constant(0, 0, 0, 0);
        due("of a field that was not seen", desk, "23");

        desk = members(false, Mode.PUBLIC, Mode.PUBLIC);
        desk.constant(0, 0, 0, 0.0);
        desk.constant(1, 0, 0, -0.0);
        due("the two zeros are one number", desk, "");
        desk.constant(1, 0, 0, Double.NaN);
        due("a number and none", desk, "31");
    }
}
