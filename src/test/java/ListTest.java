/** Promise 12: which changes are in THE LIST, and its order. */
final class ListTest {
    public static void main(String[] args) {
        Check check = new Check();
        ownWeights(check);
        ordersByNames(check);
        ordersAsFound(check);
        tellsHowAllStandsNow(check);
        check.end();
    }

    private static void ownWeights(Check check) {
        ReleaseDesk desk = new ReleaseDesk();
        desk.type(0, 0, 1, -1, 0);
        desk.type(0, 1, 1, -1, 0);
        desk.type(1, 1, 0, -1, 0);
        desk.type(1, 2, 1, -1, 0);
        desk.type(0, 3, 3, 4, 0);
        desk.type(1, 3, 29, -1, 32);
        desk.type(0, 4, 13, -1, 0);
        desk.type(1, 4, 1, -1, 0);
        desk.type(0, 5, 1, -1, 0);
        desk.type(1, 5, 1, -1, 0);
        check.text("of types", Told.lines(desk),
            "B a.A 1\nB a.B 2\nB a.D 4\nB a.D 5\nB a.D 6\nB a.D 8\nB a.D 10\n"
                + "N a.C 3\nN a.D 11\n7 0 2");

        desk = Mode.deskWithType();
        int[][] methods = {{24, -1}, {24, 0}, {-1, 24}, {-1, 26}, {16, 24}, {24, 25}, {24, 28},
            {28, 24}, {24, 26}, {26, 24}};
        for (int sign = 0; sign < methods.length; sign++) {
            desk.member(0, 0, true, sign, methods[sign][0]);
            desk.member(1, 0, true, sign, methods[sign][1]);
        }
        check.text("of methods", Told.lines(desk),
            "B a.A.a() 20\nB a.A.a(int) 22\nB a.A.b(int,long) 26\nB a.A.c() 27\nB a.A.c(int,long) 29\n"
                + "W a.A.b() 24\nN a.A.a(int,long) 23\nN a.A.b(int) 25\n5 1 2");

        desk = Mode.deskWithType();
        for (int sign = 0; sign < 3; sign++) {
            desk.member(0, 0, false, sign, 24);
            desk.member(1, 0, false, sign, 24);
        }
        desk.constant(0, 0, 0, 1);
        desk.constant(1, 0, 0, 2);
        desk.constant(0, 0, 1, 1);
        desk.constant(1, 0, 2, 1);
        check.text("of constants", Told.lines(desk),
            "W a.A.a:int 31\nW a.A.a:long 32\nN a.A.a:double 33\n0 2 1");

        desk = Mode.deskWithType();
        desk.member(0, 0, true, 0, 24);
        desk.type(0, 1, 0, -1, 0);
        desk.type(0, 1, 1, -1, 0);
        desk.type(1, 1, 1, -1, 0);
        desk.member(1, 1, true, 0, 24);
        desk.member(0, 1, true, 0, 24);
        desk.type(1, 0, 1, 1, 0);
        desk.type(0, 0, 1, 1, 0);
        check.same("inherited is silent", desk.list(), 0);
    }

    private static void ordersByNames(Check check) {
        ReleaseDesk desk = new ReleaseDesk();
        desk.type(0, 0, 33, -1, 0);
        desk.type(0, 1, 17, -1, 0);
        desk.type(0, 7, 1, -1, 0);
        desk.branch();
        desk.type(1, 7, 5, -1, 0);
        desk.drop(1, 0);
        desk.drop(1, 1);
        for (int sign = 11; sign >= 0; sign--) {
            desk.member(0, 7, false, sign, 24);
            desk.member(0, 7, true, sign, 24);
        }
        StringBuilder due = new StringBuilder("B a.H 6\n");
        for (char letter = 'a'; letter <= 'd'; letter++) {
            for (String end : new String[] {"()", "(int)", "(int,long)", ":double", ":int", ":long"}) {
                due.append("B a.H.").append(letter).append(end).append(" 20\n");
            }
        }
        due.append("B b.B 1\nB c.A 1\n27 0 0");
        check.same("how many", desk.list(), 27);
        int k = 0;
        for (String line : due.toString().split("\n")) {
            if (k < 27) {
                check.same("code of " + line, desk.change(k, 0), line.contains(" 20") ? 20
                    : line.contains(" 6") ? 6 : 1);
            }
            k++;
        }
        check.same("length", desk.report(false, -1), due.length());
        for (int at = 0; at < 400; at++) {
            check.same("character " + at, desk.report(false, at), due.charAt(at));
        }
    }

    private static void ordersAsFound(Check check) {
        ReleaseDesk desk = new ReleaseDesk();
        desk.type(0, 0, 1, -1, 0);
        desk.type(1, 0, 31, -1, 0);
        desk.member(0, 0, true, 0, 24);
        desk.member(1, 0, true, 0, 24 + 7);
        check.text("the same name", Told.codes(desk), "4 5 6 8 26 27 29");
        Told.rule(desk, "*", 6, 6, 2);
        Told.rule(desk, "*", 27, 27, 2);
        check.text("the heavier first", Told.codes(desk), "4 5 8 26 29 6 27");
    }

    private static void tellsHowAllStandsNow(Check check) {
        ReleaseDesk desk = new ReleaseDesk();
        desk.type(0, 0, 1, -1, 0);
        check.same("removed", desk.list(), 1);
        desk.type(1, 0, 1, -1, 0);
        check.same("not any more", desk.list(), 0);
        desk.member(1, 0, true, 0, 24);
        check.same("a member", desk.list(), 1);
        desk.remove(1, 0, true, 0);
        check.same("no member", desk.list(), 0);
        desk.member(0, 0, false, 0, 24);
        desk.branch();
        desk.constant(1, 0, 0, 1);
        check.same("a constant", desk.list(), 1);
        Told.rule(desk, "*", 33, 33, 0);
        check.same("a rule", desk.list(), 0);
        desk.clear();
        check.same("no rule", desk.list(), 1);
        desk.drop(0, 0);
        desk.drop(1, 0);
        check.same("no type", desk.list(), 0);
    }
}
