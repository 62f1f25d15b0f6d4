/** Promise 18, with NAMES and PATTERNS. */
final class FitsTest {
    public static void main(String[] args) {
        Check check = new Check();
        refusesWrongNumbers(check);
        knowsAllNames(check);
        fitsPatterns(check);
        check.end();
    }

    private static void refusesWrongNumbers(Check check) {
        ReleaseDesk desk = new ReleaseDesk();
        desk.type(0, 0, 1, -1, 0);
        desk.letter('*');
        for (int wrong : new int[] {-2, 12, Integer.MIN_VALUE, Integer.MAX_VALUE}) {
            check.same("wrong sign", desk.fits(0, 0, true, wrong), ReleaseDesk.REFUSED);
            check.same("wrong sign of none", desk.fits(1, 0, true, wrong), ReleaseDesk.REFUSED);
            check.same("wrong type", desk.fits(0, wrong, true, 0), ReleaseDesk.REFUSED);
            check.same("wrong build", desk.fits(wrong, 0, true, 0), ReleaseDesk.REFUSED);
        }
        check.same("type -1", desk.fits(0, -1, true, 0), ReleaseDesk.REFUSED);
        check.same("type 8", desk.fits(0, 8, true, 0), ReleaseDesk.REFUSED);
        check.same("build -1", desk.fits(-1, 0, true, 0), ReleaseDesk.REFUSED);
        check.same("build 2", desk.fits(2, 0, true, 0), ReleaseDesk.REFUSED);
        check.same("not there", desk.fits(0, 1, true, 0), ReleaseDesk.NONE);
        check.same("not there in NEW", desk.fits(1, 0, true, -1), ReleaseDesk.NONE);
        check.same("the member need not be", desk.fits(0, 0, true, 11), 1);
        desk.type(0, 0, 0, -1, 0);
        check.same("nor need the type be seen", desk.fits(0, 0, false, -1), 1);
    }

    private static void knowsAllNames(Check check) {
        String[] fieldEnds = {":int", ":long", ":double"};
        String[] methodEnds = {"()", "(int)", "(int,long)"};
        for (int sign = 0; sign < 12; sign++) {
            char letter = "abcd".charAt(sign / 3);
            ReleaseDesk desk = new ReleaseDesk();
            desk.type(0, sign % 8, 1 + 16 * (sign % 3), -1, 0);
            String type = "abc".charAt(sign % 3) + "." + "ABCDEFGH".charAt(sign % 8);
            named(check, desk, sign % 8, true, -1, type);
            named(check, desk, sign % 8, false, -1, type);
            named(check, desk, sign % 8, false, sign, type + "." + letter + fieldEnds[sign % 3]);
            named(check, desk, sign % 8, true, sign, type + "." + letter + methodEnds[sign % 3]);
        }
        ReleaseDesk desk = new ReleaseDesk();
        desk.type(0, 2, 1, -1, 0);
        desk.type(1, 2, 33, -1, 0);
        Told.spell(desk, "c.C");
        check.same("its package in OLD", desk.fits(0, 2, true, -1), 0);
        check.same("its package in NEW", desk.fits(1, 2, true, -1), 1);
    }

    /** The name is longer than a pattern, so its first and its last characters are asked for. */
    private static void named(Check check, ReleaseDesk desk, int t, boolean method, int sign,
            String name) {
        StringBuilder blanked = new StringBuilder();
        for (int i = 0; i < name.length() && i < 11; i++) {
            blanked.append(name.charAt(i));
        }
        String head = name.length() > 11 ? blanked + "*" : name;
        String tail = name.length() > 11 ? "*" + name.substring(name.length() - 11) : name;
        String length = name.length() > 12 ? "???*????" : "????????????".substring(0, name.length());
        for (String pattern : new String[] {head, tail, length}) {
            Told.spell(desk, pattern);
            check.same(pattern + " for " + name, desk.fits(0, t, method, sign), 1);
            desk.clear();
        }
    }

    private static void fitsPatterns(Check check) {
        // The name is a.B.c(int): method 7 of type 1.
        String[] fitting = {"*", "**", "************", "a.B.c(int)", "?.?.?(int)", "??????????",
            "a*", "*)", "*a.B.c(int)", "a.B.c(int)*", "a*.*c*", "*.*.*", "*??????????*", "*(*)",
            "a.*.*(*n*)", "*?*?*", "a.B.c(int*)", "*i*t*", "?*)", "a?B?c?i?t?"};
        String[] failing = {"", "a", "a.B", "A.B.c(int)", "a.B.c(int)?", "?a.B.c(int)", "*(",
            "?????????", "???????????", "a.b*", "*.*.*.*", "b*", "*c", "*i*i*", "*t)*t)", "*:*",
            "***********!", "*c(int", "a.B.c()", "+*", "*.c(int)a*"};
        ReleaseDesk desk = new ReleaseDesk();
        desk.type(0, 1, 0, -1, 0);
        for (String pattern : fitting) {
            Told.spell(desk, pattern);
            check.same(pattern, desk.fits(0, 1, true, 7), 1);
            desk.clear();
        }
        for (String pattern : failing) {
            Told.spell(desk, pattern);
            check.same(pattern, desk.fits(0, 1, true, 7), 0);
            desk.clear();
        }
        desk.letter('*');
        desk.fits(0, 1, true, 7);
        check.same("the pattern stays", desk.letter('a'), 2);
    }
}
