/** Promise 7, each of its words that name a boundary. */
final class BranchEdgesTest {
    private static final String PROMISE = "Promise 7";
    private static final int PUBLIC = Mode.PUBLIC_TYPE;

    public static void main(String[] args) {
        Check check = new Check();
        ofNothing(check);
        ofTypesWithoutMembers(check);
        ofAll(check);
        countsEach(check);
        allOfOld(check);
        nothingOfNew(check);
        apartFromThenOn(check);
        leavesAllElse(check);
        again(check);
        check.end();
    }

    private static void ofNothing(Check check) {
        check.about(PROMISE, "NEW becomes as OLD: how many MEMBERS it has");
        Unchanged.after(desk -> { }, check, "branch() of nothing", 0, desk -> desk.branch());
        ReleaseDesk desk = new ReleaseDesk();
        desk.type(1, 0, PUBLIC, -1, 0);
        desk.member(1, 0, Mode.METHOD, 0, Mode.PUBLIC);
        check.same("OLD is empty", desk.branch(), 0);
        check.same("so nothing differs", desk.list(), 0);
        check.no("NEW is empty", desk.drop(1, 0));
    }

    private static void ofTypesWithoutMembers(Check check) {
        check.about(PROMISE, "how many MEMBERS it has");
        ReleaseDesk desk = new ReleaseDesk();
        for (int t = 0; t < 8; t++) {
            desk.type(0, t, 47, -1, 0);
        }
        check.same("types count none", desk.branch(), 0);
        check.yes("they have come", desk.drop(1, 7));
    }

    private static void ofAll(Check check) {
        check.about(PROMISE, "how many MEMBERS it has");
        ReleaseDesk desk = new ReleaseDesk();
        for (int t = 0; t < 8; t++) {
            desk.type(0, t, 0, -1, 0);
            for (int sign = 0; sign < 12; sign++) {
                desk.member(0, t, Mode.FIELD, sign, 8 * (sign % 4));
                desk.member(0, t, Mode.METHOD, sign, sign);
            }
        }
        check.same("all there can be, seen or not", desk.branch(), 192);
        for (int t = 0; t < 8; t++) {
            check.yes("the first one of " + t, desk.remove(1, t, Mode.FIELD, 0));
            check.yes("the last one of " + t, desk.remove(1, t, Mode.METHOD, 11));
        }
        check.same("those in NEW do not count", desk.branch(), 192);
        desk.drop(0, 0);
        check.same("without type 0", desk.branch(), 168);
    }

    private static void countsEach(Check check) {
        check.about(PROMISE, "how many MEMBERS it has");
        for (int t = 0; t < 8; t += 7) {
            for (int sign = 0; sign < 12; sign += 11) {
                for (boolean method : new boolean[] {Mode.FIELD, Mode.METHOD}) {
                    ReleaseDesk desk = new ReleaseDesk();
                    desk.type(0, t, 0, -1, 0);
                    desk.member(0, t, method, sign, 0);
                    check.same("one", desk.branch(), 1);
                    check.yes("it is in NEW", desk.remove(1, t, method, sign));
                }
            }
        }
    }

    private static void allOfOld(Check check) {
        check.about(PROMISE, "NEW becomes as OLD");
        String byHand = Account.after(desk -> {
            fill(desk, 0);
            fill(desk, 1);
        });
        check.text("NEW, empty before, by branch", Account.after(desk -> {
            fill(desk, 0);
            desk.branch();
        }), byHand);
        check.text("NEW, busy before, by branch", Account.after(desk -> {
            fill(desk, 1);
            desk.type(1, 0, 46, 7, 255);
            desk.type(1, 5, 47, 1, 255);
            desk.member(1, 5, Mode.FIELD, 5, Mode.PUBLIC);
            desk.constant(1, 5, 5, 5);
            desk.drop(1, 6);
            fill(desk, 0);
            desk.branch();
        }), byHand);
    }

    private static void fill(ReleaseDesk desk, int build) {
        desk.type(build, 0, 47, 1, 4);
        desk.type(build, 1, 2, 6, 0);
        desk.type(build, 2, 16, -1, 128);
        desk.type(build, 6, PUBLIC, -1, 0);
        desk.type(build, 7, PUBLIC, 7, 255);
        desk.member(build, 0, Mode.FIELD, 0, 31);
        desk.constant(build, 0, 0, -4);
        desk.member(build, 1, Mode.METHOD, 11, 0);
        desk.member(build, 6, Mode.METHOD, 0, 23);
        desk.member(build, 7, Mode.FIELD, 11, 17);
        desk.constant(build, 7, 11, 0);
        desk.member(build, 7, Mode.FIELD, 10, 24);
    }

    private static void nothingOfNew(Check check) {
        check.about(PROMISE, "NEW becomes as OLD");
        ReleaseDesk desk = new ReleaseDesk();
        desk.type(0, 0, PUBLIC, -1, 0);
        desk.member(0, 0, Mode.FIELD, 1, Mode.PUBLIC);
        for (int t = 0; t < 8; t++) {
            desk.type(1, t, 47, t, 255);
            desk.member(1, t, Mode.FIELD, 0, Mode.PUBLIC);
            desk.member(1, t, Mode.FIELD, 1, Mode.PUBLIC);
            desk.constant(1, t, 1, 3);
            desk.member(1, t, Mode.METHOD, 11, Mode.PUBLIC);
        }
        check.same("members", desk.branch(), 1);
        check.text("no change", Told.allCodes(desk), "");
        for (int t = 1; t < 8; t++) {
            check.no("type " + t + " is gone", desk.drop(1, t));
        }
        check.no("a field is gone", desk.remove(1, 0, Mode.FIELD, 0));
        check.no("a method is gone", desk.remove(1, 0, Mode.METHOD, 11));
        check.yes("the one of OLD stays", desk.remove(1, 0, Mode.FIELD, 1));
    }

    private static void apartFromThenOn(Check check) {
        check.about(PROMISE, "NEW becomes as OLD");
        for (int build = 0; build < 2; build++) {
            ReleaseDesk desk = new ReleaseDesk();
            desk.type(0, 0, PUBLIC, 1, 4);
            desk.type(0, 1, PUBLIC, -1, 0);
            desk.type(0, 2, PUBLIC, -1, 0);
            desk.member(0, 0, Mode.FIELD, 0, Mode.PUBLIC);
            desk.constant(0, 0, 0, 1);
            desk.branch();
            desk.constant(build, 0, 0, 2);
            check.number("a constant of one alone", desk.shift(0), build == 0 ? -1 : 1);
            desk.member(build, 0, Mode.FIELD, 0, Mode.PROTECTED);
            check.text("a mode of one alone", Told.codes(desk), build == 0 ? "25 33" : "22 32");
            desk.type(build, 0, PUBLIC, -1, 4);
            check.text("a super of one alone", Told.codes(desk), build == 0 ? "11 25 33" : "10 22 32");
            desk.drop(build, 0);
            check.text("a type of one alone", Told.codes(desk), build == 0 ? "3" : "1");
            check.same("the other type 0", desk.fits(1 - build, 0, Mode.METHOD, -1), 0);
        }
    }

    private static void leavesAllElse(Check check) {
        check.about(PROMISE, "NEW becomes as OLD");
        ReleaseDesk desk = new ReleaseDesk();
        desk.version(3, 4, 5);
        Told.rule(desk, "*", 1, 1, 2);
        Told.rule(desk, "*", 2, 2, 2);
        Told.spell(desk, "a.?");
        desk.type(0, 0, PUBLIC, -1, 0);
        desk.branch();
        check.same("the version stays", desk.advice(), 3004006);
        check.same("the pattern stays", desk.fits(1, 0, Mode.METHOD, -1), 1);
        check.same("to its letter", desk.letter('?'), 4);
        desk.drop(1, 0);
        check.same("the rules stay", desk.change(0, 1), 2);
        check.same("both", desk.clear(), 2);
    }

    private static void again(Check check) {
        check.about(PROMISE, "how many MEMBERS it has");
        ReleaseDesk desk = new ReleaseDesk();
        desk.type(0, 0, PUBLIC, -1, 0);
        desk.member(0, 0, Mode.METHOD, 0, Mode.PUBLIC);
        check.same("once", desk.branch(), 1);
        check.same("twice", desk.branch(), 1);
        desk.remove(0, 0, Mode.METHOD, 0);
        check.same("after a removal in OLD", desk.branch(), 0);
        check.no("NEW has lost it too", desk.remove(1, 0, Mode.METHOD, 0));
    }
}
