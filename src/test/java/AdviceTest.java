/** Promise 16, with ADVISED. */
final class AdviceTest {
    private static final int FIRST = 0;
    private static final int SECOND = 1;
    private static final int THIRD = 2;

    public static void main(String[] args) {
        Check check = new Check();
        carries(check);
        looksAtCodes(check);
        looksAtWeights(check);
        check.end();
    }

    private static ReleaseDesk desk(int part) {
        ReleaseDesk desk = new ReleaseDesk();
        if (part == FIRST) {
            desk.type(0, 0, 1, -1, 0);
        } else if (part == SECOND) {
            desk.type(1, 0, 1, -1, 0);
        }
        return desk;
    }

    private static void carries(Check check) {
        int[][] due = {
            {FIRST, 1, 0, 0, 2000000}, {FIRST, 7, 8, 9, 8000000}, {FIRST, 0, 0, 0, 1000},
            {FIRST, 0, 5, 6, 6000}, {FIRST, 0, 998, 999, 999000}, {FIRST, 0, 999, 999, 1000000},
            {FIRST, 0, 999, 0, 1000000}, {FIRST, 999, 0, 0, 1000000000},
            {FIRST, 999, 999, 999, 1000000000}, {FIRST, 998, 999, 999, 999000000},
            {SECOND, 1, 2, 3, 1003000}, {SECOND, 0, 0, 9, 1000}, {SECOND, 4, 999, 7, 5000000},
            {SECOND, 0, 999, 7, 1000000}, {SECOND, 999, 999, 0, 1000000000},
            {THIRD, 1, 2, 3, 1002004}, {THIRD, 0, 0, 0, 1}, {THIRD, 1, 2, 999, 1003000},
            {THIRD, 1, 999, 999, 2000000}, {THIRD, 999, 999, 999, 1000000000},
        };
        for (int[] d : due) {
            ReleaseDesk desk = desk(d[0]);
            desk.version(d[1], d[2], d[3]);
            check.same("advice after " + d[1] + "." + d[2] + "." + d[3], desk.advice(), d[4]);
        }
    }

    /** Every change is made a note, so that only the codes count. */
    private static void looksAtCodes(Check check) {
        int[][] methods = {{20, 24, -1}, {22, 24, 0}, {23, -1, 24}, {24, -1, 26}, {25, 16, 24},
            {26, 24, 25}, {27, 24, 28}, {28, 28, 24}, {29, 24, 26}, {30, 26, 24}};
        for (int[] m : methods) {
            ReleaseDesk desk = Mode.deskWithType();
            desk.member(0, 0, true, 0, m[1]);
            desk.member(1, 0, true, 0, m[2]);
            advisedForNotes(check, desk, m[0]);
        }
        int[][] types = {{1, 1, -1}, {2, 1, 0}, {3, 0, 1}, {4, 1, 17}, {5, 1, 3}, {6, 1, 5}, {7, 5, 1},
            {8, 1, 9}, {9, 9, 1}};
        for (int[] t : types) {
            ReleaseDesk desk = new ReleaseDesk();
            desk.type(0, 0, t[1], -1, 0);
            desk.type(1, 0, t[2], -1, 0);
            advisedForNotes(check, desk, t[0]);
        }
        for (int code = 10; code <= 11; code++) {
            ReleaseDesk desk = Mode.deskWithType();
            desk.type(0, 1, 1, -1, 0);
            desk.type(1, 1, 1, -1, 0);
            desk.type(code - 10, 0, 1, 1, 0);
            advisedForNotes(check, desk, code);
        }
        for (int code = 31; code <= 33; code++) {
            ReleaseDesk desk = Mode.deskWithType();
            desk.member(0, 0, false, 0, 24);
            desk.member(1, 0, false, 0, 24);
            if (code != 33) {
                desk.constant(0, 0, 0, 1);
            }
            if (code != 32) {
                desk.constant(1, 0, 0, 2);
            }
            advisedForNotes(check, desk, code);
        }
        ReleaseDesk desk = new ReleaseDesk();
        desk.type(0, 1, 1, -1, 0);
        desk.member(0, 1, true, 0, 24);
        desk.type(0, 0, 1, 1, 0);
        desk.branch();
        desk.member(0, 0, true, 0, 24);
        advisedForNotes(check, desk, 21);
    }

    private static void advisedForNotes(Check check, ReleaseDesk desk, int code) {
        Told.rule(desk, "*", 1, 33, 1);
        check.text("the code alone", Told.codes(desk), String.valueOf(code));
        boolean adds = code == 3 || code == 11 || code == 23 || code == 24 || code == 25 || code == 33;
        check.same("advice for code " + code, desk.advice(), adds ? 1001000 : 1000001);
    }

    private static void looksAtWeights(Check check) {
        ReleaseDesk desk = desk(SECOND);
        Told.rule(desk, "*", 3, 3, 3);
        check.same("an addition weighed as a break", desk.advice(), 2000000);
        Told.rule(desk, "*", 3, 3, 0);
        check.same("a silent addition", desk.advice(), 1000001);
        desk = desk(FIRST);
        Told.rule(desk, "*", 1, 1, 2);
        check.same("a break weighed as a warning", desk.advice(), 1000001);
        Told.rule(desk, "*", 1, 1, 0);
        check.same("a silent break", desk.advice(), 1000001);
    }
}
