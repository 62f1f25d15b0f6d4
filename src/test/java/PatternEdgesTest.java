/** When a PATTERN fits, under 'Terms', for promises 9 and 18: each boundary. */
final class PatternEdgesTest {
    private static final String PROMISE = "Promise 18, Terms";
    private static final String ALL = "A PATTERN fits a text if all of it does";
    private static final String STAR = "* for any characters, also none";
    private static final String MARK = "? for just one";
    private static final String OTHERS = "others for themselves";

    /** The sign whose method has the name a.A.a(int), and one with the longest name. */
    private static final int SHORT = 1;
    private static final int LONG = 2;
    private static final int TYPE = -1;

    public static void main(String[] args) {
        Check check = new Check();
        allOfIt(check);
        emptyPattern(check);
        starForNone(check);
        starForMany(check);
        starsInARow(check);
        starsThatMustGoBack(check);
        markForOne(check);
        markNotForNone(check);
        markNotForTwo(check);
        marksAndStars(check);
        othersForThemselves(check);
        othersWithNoSense(check);
        everyPlace(check);
        check.end();
    }

    private static void due(Check check, int sign, int due, String... patterns) {
        for (String pattern : patterns) {
            ReleaseDesk desk = new ReleaseDesk();
            desk.type(0, 0, 0, -1, 0);
            Told.spell(desk, pattern);
            String name = sign == TYPE ? "a.A" : sign == SHORT ? "a.A.a(int)" : "a.A.a(int,long)";
            check.same(pattern + " for " + name, desk.fits(0, 0, Mode.METHOD, sign), due);
        }
    }

    private static void allOfIt(Check check) {
        check.about(PROMISE, ALL);
        due(check, TYPE, 1, "a.A");
        due(check, TYPE, 0, "a", "a.", ".A", "A", ".", "a.A.", "a.AA", "aa.A", "?a.A", "a.A?");
        due(check, SHORT, 1, "a.A.a(int)");
        due(check, SHORT, 0, "a.A.a(int", ".A.a(int)", "a.A", "a.A.a(int))", "aa.A.a(int)", "int");
        // The longest name has more characters than a pattern may have.
        due(check, LONG, 0, "a.A.a(int,lo", "A.a(int,long", ".a(int,long)", "????????????");
    }

    private static void emptyPattern(Check check) {
        check.about(PROMISE, ALL);
        due(check, TYPE, 0, "");
        due(check, SHORT, 0, "");
        due(check, LONG, 0, "");
    }

    private static void starForNone(Check check) {
        check.about(PROMISE, STAR);
        due(check, TYPE, 1, "*a.A", "a*.A", "a.*A", "a.A*", "*a*.*A*");
        due(check, SHORT, 1, "*a.A.a(int)", "a.A.a(int)*", "a.A.a*(int)");
    }

    private static void starForMany(Check check) {
        check.about(PROMISE, STAR);
        due(check, TYPE, 1, "*", "a*", "*A", "a*A", "*.*", "*.A", "a.*");
        due(check, TYPE, 0, "b*", "*B", "a*a", "A*a", "*.*.*");
        due(check, SHORT, 1, "*", "a*", "*)", "a*)", "a.A.*", "*(int)", "a*(*)", "*.*.*");
        due(check, SHORT, 0, "a*(", "*(int", "*.*.*.*", "*:*", "b*)", "*,*");
        due(check, LONG, 1, "*", "a*)", "*,*", "a.A.a(int,*", "*(int,long)", "*,long)", "a*g)");
        due(check, LONG, 0, "*,", "*int", "a.A.a(int*t)", "*long");
    }

    private static void starsInARow(Check check) {
        check.about(PROMISE, STAR);
        due(check, TYPE, 1, "**", "************", "a**A", "**a.A**", "***a***.A");
        due(check, TYPE, 0, "**b", "***********b", "b***********", "a**a", "***********!");
        due(check, LONG, 1, "***********)", "a***********", "****,****", "************");
        due(check, LONG, 0, "***********(", "***********!", "!***********", "****:****");
    }

    private static void starsThatMustGoBack(Check check) {
        check.about(PROMISE, STAR);
        due(check, SHORT, 1, "*a*a*", "*a(*", "*.a*", "*.A.*", "*A.a(*", "a*a*t)", "*?a(int)", "*.*(*");
        due(check, SHORT, 0, "*a*a*a*", "*.*.*.", "*t*i*", "*n*n*", "*)*)*", "a*a*a*");
        due(check, LONG, 1, "*n*n*", "*n*n*)", "*ng)", "*n?)", "*(*,*)", "*a*n*n*g*)", "*nt,*ng)");
        due(check, LONG, 0, "*n*n*n*", "*n?n*", "*g*n*", "*l*,*", "*n)", "*a*a*a*");
    }

    private static void markForOne(Check check) {
        check.about(PROMISE, MARK);
        due(check, TYPE, 1, "???", "?.A", "a?A", "a.?", "??A", "a??", "?.?");
        due(check, SHORT, 1, "??????????", "?.A.a(int)", "a.A.a(int?", "a?A?a?i?t?");
    }

    private static void markNotForNone(Check check) {
        check.about(PROMISE, MARK);
        due(check, TYPE, 0, "????", "?a.A", "a?.A", "a.?A", "a.A?");
        due(check, SHORT, 0, "???????????", "?a.A.a(int)", "a.A.a(int)?", "a.A.a?(int)");
    }

    private static void markNotForTwo(Check check) {
        check.about(PROMISE, MARK);
        due(check, TYPE, 0, "?", "??", "?A", "a?");
        due(check, SHORT, 0, "?????????", "?A.a(int)", "a.A.a(in?", "a.A.a?)");
    }

    private static void marksAndStars(Check check) {
        check.about(PROMISE, "* for any characters, also none, ? for just one");
        due(check, TYPE, 1, "?*", "*?", "???*", "*???", "?*?", "?*?*?", "*?*?*?*", "??*?");
        due(check, TYPE, 0, "????*", "*????", "?*??*?", "?*?*?*?", "*?*?*?*?*", "*?.A?");
        due(check, LONG, 1, "???????????*", "*???????????", "?*?*?*?*?*?*", "?????*??????");
        due(check, SHORT, 1, "??????????*", "*??????????", "*??????????*", "?????*?????");
        due(check, SHORT, 0, "???????????*", "*???????????", "??????*?????", "?????*??????");
    }

    private static void othersForThemselves(Check check) {
        check.about(PROMISE, OTHERS);
        for (int c = 33; c <= 126; c++) {
            boolean wild = c == '*' || c == '?';
            due(check, TYPE, wild || c == 'a' ? 1 : 0, (char) c + ".A");
            due(check, TYPE, wild || c == '.' ? 1 : 0, "a" + (char) c + "A");
            due(check, TYPE, wild || c == 'A' ? 1 : 0, "a." + (char) c);
            due(check, SHORT, wild || c == ')' ? 1 : 0, "*" + (char) c);
        }
    }

    private static void othersWithNoSense(Check check) {
        check.about(PROMISE, OTHERS);
        due(check, TYPE, 0, "a.A$", "^a.A", "[a].A", "(a).A", "a.A+", "a+.A", "a\\.A", "a.[A]", "a.A|a",
            ".+", ".{3}", "a.%", "a.A{1}", "%", "_._", "#.#", "A.A", "a.a", "A.a");
        due(check, SHORT, 0, "a.A.a[int]", "a.A.aint", "a.A.a\\(int)", "a.A.a(INT)", "a,A,a(int)");
    }

    private static void everyPlace(Check check) {
        check.about(PROMISE, ALL);
        String name = "a.A.a(int)";
        for (int i = 0; i < name.length(); i++) {
            String head = name.substring(0, i);
            String tail = name.substring(i + 1);
            due(check, SHORT, 1, head + "?" + tail, head + "*" + tail, head + name.charAt(i) + tail);
            due(check, SHORT, 0, head + tail, head + "!" + tail, head + "??" + tail, head + "*!" + tail);
            due(check, SHORT, 1, head + "*" + name.charAt(i) + tail, head + name.charAt(i) + "*" + tail);
        }
    }
}
