/** Promise 13. */
final class ChangeTest {
    public static void main(String[] args) {
        Check check = new Check();
        ReleaseDesk desk = new ReleaseDesk();
        check.same("none", desk.change(0, 0), ReleaseDesk.NONE);
        check.same("none, and no such question", desk.change(0, 5), ReleaseDesk.REFUSED);
        desk.type(0, 7, 1, -1, 0);
        desk.branch();
        desk.member(0, 7, true, 11, 24);
        desk.member(1, 7, false, 10, 24);
        desk.type(1, 7, 5, -1, 0);
        desk.member(1, 7, true, 0, 26);
        desk.type(1, 3, 1, -1, 0);
        int[][] due = {
            {6, 3, 7, 0, ReleaseDesk.NONE},
            {20, 3, 7, 2, 11},
            {24, 2, 7, 2, 0},
            {3, 1, 3, 0, ReleaseDesk.NONE},
            {23, 1, 7, 1, 10},
        };
        for (int k = 0; k < due.length; k++) {
            for (int what = 0; what < 5; what++) {
                check.same("change " + k + " " + what, desk.change(k, what), due[k][what]);
            }
        }
        for (int k : new int[] {-1, 5, Integer.MIN_VALUE, Integer.MAX_VALUE}) {
            check.same("change " + k, desk.change(k, 0), ReleaseDesk.NONE);
            check.same("sign of change " + k, desk.change(k, 4), ReleaseDesk.NONE);
        }
        for (int what : new int[] {-1, 5, Integer.MIN_VALUE, Integer.MAX_VALUE}) {
            check.same("what " + what, desk.change(0, what), ReleaseDesk.REFUSED);
            check.same("what " + what + " of none", desk.change(9, what), ReleaseDesk.REFUSED);
        }
        Told.rule(desk, "*", 1, 33, 2);
        check.same("a rule's weight", desk.change(0, 1), 2);
        check.same("by the name now", desk.change(0, 0), 3);
        check.end();
    }
}
