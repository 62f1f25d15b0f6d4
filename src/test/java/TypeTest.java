/** Promise 2. */
final class TypeTest {
    public static void main(String[] args) {
        Check check = new Check();
        refusesWrongNumbers(check);
        takesTheEdges(check);
        keepsMembers(check);
        readsPackageAndFlags(check);
        check.end();
    }

    private static void refusesWrongNumbers(Check check) {
        ReleaseDesk desk = new ReleaseDesk();
        int big = Integer.MAX_VALUE;
        int small = Integer.MIN_VALUE;
        int[][] wrong = {
            {-1, 0, 1, -1, 0}, {2, 0, 1, -1, 0}, {small, 0, 1, -1, 0}, {big, 0, 1, -1, 0},
            {0, -1, 1, -1, 0}, {0, 8, 1, -1, 0}, {0, small, 1, -1, 0}, {0, big, 1, -1, 0},
            {0, 0, -1, -1, 0}, {0, 0, 48, -1, 0}, {0, 0, small, -1, 0}, {0, 0, big, -1, 0},
            {0, 0, 1, -2, 0}, {0, 0, 1, 8, 0}, {0, 0, 1, small, 0}, {0, 0, 1, big, 0},
            {0, 0, 1, -1, -1}, {0, 0, 1, -1, 256}, {0, 0, 1, -1, small}, {0, 0, 1, -1, big},
        };
        for (int[] w : wrong) {
            check.no("type with a wrong number", desk.type(w[0], w[1], w[2], w[3], w[4]));
        }
        check.no("a refused type is not there", desk.drop(0, 0));

        desk.type(0, 0, 1, -1, 0);
        check.no("a wrong change of a type", desk.type(0, 0, 0, 8, 0));
        check.same("it stays seen", desk.change(0, 0), 1);
    }

    private static void takesTheEdges(Check check) {
        ReleaseDesk desk = new ReleaseDesk();
        check.yes("least numbers", desk.type(0, 0, 0, -1, 0));
        check.yes("greatest numbers", desk.type(1, 7, 47, 7, 255));
        check.yes("a super that is not there", desk.type(0, 7, 1, 5, 0));
        check.yes("a super that is itself", desk.type(0, 7, 1, 7, 128));
        check.yes("the type is there", desk.drop(1, 7));
    }

    private static void keepsMembers(Check check) {
        ReleaseDesk desk = new ReleaseDesk();
        desk.type(0, 3, 1, -1, 0);
        desk.member(0, 3, false, 2, 24);
        desk.constant(0, 3, 2, 7);
        desk.member(0, 3, true, 5, 24);
        check.yes("type again", desk.type(0, 3, 17, -1, 0));
        check.same("members are kept", desk.branch(), 2);
        desk.constant(1, 3, 2, 9);
        check.same("the constant is kept", desk.change(0, 0), 31);
        check.number("with its value", desk.shift(0), 2);
    }

    private static void readsPackageAndFlags(Check check) {
        ReleaseDesk desk = new ReleaseDesk();
        desk.type(0, 0, 1, -1, 0);
        desk.type(0, 1, 16 + 1, -1, 0);
        desk.type(0, 2, 32 + 1, -1, 0);
        desk.type(0, 3, 14, -1, 0);
        desk.type(1, 4, 33, -1, 0);
        check.text("names by packages", Told.lines(desk), "B a.A 1\nB b.B 1\nB c.C 1\nN c.E 3\n3 0 1");
        desk.type(0, 1, 1, -1, 0);
        check.text("another package", Told.lines(desk), "B a.A 1\nB a.B 1\nB c.C 1\nN c.E 3\n3 0 1");
    }
}
