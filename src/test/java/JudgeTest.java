/** Promise 17. */
final class JudgeTest {
    public static void main(String[] args) {
        Check check = new Check();
        ReleaseDesk desk = new ReleaseDesk();
        desk.version(5, 6, 7);
        for (int wrong : new int[] {-1, 1000, Integer.MIN_VALUE, Integer.MAX_VALUE}) {
            check.same("wrong first", desk.judge(wrong, 0, 0), ReleaseDesk.REFUSED);
            check.same("wrong second", desk.judge(9, wrong, 0), ReleaseDesk.REFUSED);
            check.same("wrong third", desk.judge(9, 0, wrong), ReleaseDesk.REFUSED);
        }
        judged(check, desk, 0, new int[][] {{5, 6, 8}, {5, 7, 0}, {6, 0, 0}, {999, 999, 999}});
        judged(check, desk, 2, new int[][] {{5, 6, 7}, {5, 6, 6}, {5, 5, 999}, {4, 999, 999}, {0, 0, 0}});

        desk.type(1, 0, 1, -1, 0);
        judged(check, desk, 0, new int[][] {{5, 7, 0}, {6, 0, 0}});
        judged(check, desk, 1, new int[][] {{5, 6, 8}, {5, 6, 999}});
        judged(check, desk, 2, new int[][] {{5, 6, 7}, {4, 7, 8}});

        desk.type(0, 0, 1, -1, 0);
        desk.member(1, 0, true, 0, 26);
        judged(check, desk, 8, new int[][] {{5, 7, 0}});
        judged(check, desk, 9, new int[][] {{5, 6, 8}});
        judged(check, desk, 10, new int[][] {{5, 6, 7}});

        desk.type(0, 1, 1, -1, 0);
        judged(check, desk, 12, new int[][] {{6, 0, 0}, {7, 0, 0}});
        judged(check, desk, 13, new int[][] {{5, 999, 999}, {5, 6, 8}});
        judged(check, desk, 14, new int[][] {{5, 6, 7}, {0, 999, 999}});

        Told.rule(desk, "*()", 24, 24, 0);
        judged(check, desk, 4, new int[][] {{6, 0, 0}});
        judged(check, desk, 5, new int[][] {{5, 6, 8}});
        judged(check, desk, 6, new int[][] {{5, 6, 7}});

        desk.version(999, 999, 999);
        judged(check, desk, 6, new int[][] {{999, 999, 999}});
        check.end();
    }

    private static void judged(Check check, ReleaseDesk desk, int due, int[][] versions) {
        for (int[] v : versions) {
            check.same("judge " + v[0] + "." + v[1] + "." + v[2], desk.judge(v[0], v[1], v[2]), due);
        }
    }
}
