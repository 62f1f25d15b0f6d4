/** Promise 15, with THE REPORT in both forms. */
final class ReportTest {
    public static void main(String[] args) {
        Check check = new Check();
        ReleaseDesk desk = new ReleaseDesk();
        due(check, desk, "0 0 0", "{\"changes\":[],\"advice\":\"1.0.1\"}");

        desk.type(1, 0, 33, -1, 0);
        due(check, desk, "N c.A 3\n0 0 1",
            "{\"changes\":[{\"w\":1,\"n\":\"c.A\",\"c\":3}],\"advice\":\"1.1.0\"}");

        desk.type(0, 7, 1, -1, 0);
        desk.type(1, 7, 17, -1, 0);
        desk.member(0, 7, true, 11, 24);
        desk.member(0, 7, false, 8, 24);
        desk.member(1, 7, false, 8, 24);
        desk.constant(0, 7, 8, 1);
        desk.version(999, 20, 300);
        due(check, desk, "B a.H 4\nB a.H.d(int,long) 20\nW a.H.c:double 32\nN c.A 3\n2 1 1",
            "{\"changes\":[{\"w\":3,\"n\":\"a.H\",\"c\":4},{\"w\":3,\"n\":\"a.H.d(int,long)\",\"c\":20},"
                + "{\"w\":2,\"n\":\"a.H.c:double\",\"c\":32},{\"w\":1,\"n\":\"c.A\",\"c\":3}],"
                + "\"advice\":\"1000.0.0\"}");
        manyChanges(check);
        check.end();
    }

    private static void due(Check check, ReleaseDesk desk, String lines, String json) {
        check.text("lines", Told.report(desk, false), lines);
        check.text("JSON", Told.report(desk, true), json);
        for (int k : new int[] {-2, Integer.MIN_VALUE, Integer.MAX_VALUE}) {
            check.same("line " + k, desk.report(false, k), ReleaseDesk.NONE);
            check.same("JSON " + k, desk.report(true, k), ReleaseDesk.NONE);
        }
        check.same("beyond the lines", desk.report(false, lines.length()), ReleaseDesk.NONE);
        check.same("beyond the JSON", desk.report(true, json.length()), ReleaseDesk.NONE);
    }

    /** As many changes as 512 calls can make: numbers of three digits, and a full list. */
    private static void manyChanges(Check check) {
        ReleaseDesk desk = new ReleaseDesk();
        for (int t = 0; t < 8; t++) {
            desk.type(0, t, 1, (t + 1) % 8, 0);
            for (int slot = 0; slot < 24; slot++) {
                desk.member(0, t, slot > 11, slot % 12, 24);
            }
        }
        check.same("members", desk.branch(), 192);
        for (int t = 0; t < 8; t++) {
            desk.type(1, t, 31, t, 0);
            for (int slot = 0; slot < 24; slot++) {
                desk.member(1, t, slot > 11, slot % 12, 16 + 7);
            }
        }
        // Made final, a type hides what is protected in it.
        check.same("with final types", desk.list(), 8 * (5 + 24));
        for (int t = 0; t < 8; t++) {
            desk.type(1, t, 23, t, 0);
        }
        check.same("changes", desk.list(), 8 * (4 + 12 * 3 + 12 * 4));
        int length = desk.report(false, -1);
        String tail = "704 0 0";
        for (int i = 0; i < tail.length(); i++) {
            check.same("tail", desk.report(false, length - tail.length() + i), tail.charAt(i));
        }
        check.same("the last one's code", desk.change(703, 0), 27);
        check.same("and type", desk.change(703, 2), 7);
    }
}
