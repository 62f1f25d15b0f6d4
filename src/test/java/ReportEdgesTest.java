/** Promise 15 with THE REPORT under 'Terms', each of its words that name a boundary. */
final class ReportEdgesTest {
    private static final String PROMISE = "Promise 15";
    private static final String TERMS = "Promise 15, Terms";
    private static final String LINES = "for each of the LIST B, W or N by its WEIGHT, a blank, its NAME,"
        + " a blank, its CODE in digits, and character 10";
    private static final String NUMBERS = "then the three numbers of BREAKS, WARNINGS and NOTES, with"
        + " blanks between";
    private static final String COMMAS = "with commas between";
    private static final String ADVICE = "the version advised, as three numbers with . between";
    private static final boolean[] FORMS = {false, true};
    private static final String NO_LINES = "0 0 0";
    private static final String NO_JSON = "{\"changes\":[],\"advice\":\"1.0.1\"}";

    public static void main(String[] args) {
        Check check = new Check();
        firstAndLastCharacter(check);
        howMany(check);
        anotherK(check);
        noLines(check);
        linesOfEachWeight(check);
        newlineBehindEach(check);
        codesInDigits(check);
        threeNumbers(check);
        numbersOfMoreDigits(check);
        noJson(check);
        jsonOfEachWeight(check);
        commas(check);
        adviceInJson(check);
        noOtherCharacters(check);
        longReport(check);
        fullest(check);
        changesNothing(check);
        check.end();
    }

    private static ReleaseDesk desk(int types) {
        ReleaseDesk desk = new ReleaseDesk();
        for (int t = 0; t < types; t++) {
            desk.type(0, t, 1, -1, 0);
        }
        return desk;
    }

    private static void firstAndLastCharacter(Check check) {
        check.about(PROMISE, "Character k (0 the first) of THE REPORT in lines (json false) or JSON (true)");
        for (int types = 0; types < 3; types++) {
            ReleaseDesk desk = desk(types);
            int lines = desk.report(false, -1);
            int json = desk.report(true, -1);
            check.same("the first of the lines", desk.report(false, 0), types == 0 ? '0' : 'B');
            check.same("the second of the lines", desk.report(false, 1), ' ');
            check.same("the last of the lines", desk.report(false, lines - 1), '0');
            check.same("the last but four of the lines", desk.report(false, lines - 5), '0' + types);
            check.same("the first of the JSON", desk.report(true, 0), '{');
            check.same("the second of the JSON", desk.report(true, 1), '"');
            check.same("the last but one of the JSON", desk.report(true, json - 2), '"');
            check.same("the last of the JSON", desk.report(true, json - 1), '}');
        }
    }

    private static void howMany(Check check) {
        check.about(PROMISE, "with k = -1 how many it has");
        int[] lines = {5, 13, 21, 29, 37, 45, 53, 61, 69};
        int[] json = {31, 54, 78, 102, 126, 150, 174, 198, 222};
        for (int types = 0; types <= 8; types++) {
            check.same("lines of " + types, desk(types).report(false, -1), lines[types]);
            check.same("JSON of " + types, desk(types).report(true, -1), json[types]);
        }
    }

    private static void anotherK(Check check) {
        check.about(PROMISE, "NONE for another k");
        for (int types = 0; types < 3; types++) {
            ReleaseDesk desk = desk(types);
            for (boolean form : FORMS) {
                int length = desk.report(form, -1);
                for (int k : new int[] {-2, -3, -length, Integer.MIN_VALUE, Integer.MAX_VALUE, length,
                        length + 1, 65536, -65536}) {
                    check.same("report(" + form + ", " + k + ")", desk.report(form, k), ReleaseDesk.NONE);
                }
                for (int k = 0; k < length; k++) {
                    check.yes("report(" + form + ", " + k + ") is a character", desk.report(form, k) >= 10);
                }
            }
        }
    }

    private static void noLines(Check check) {
        check.about(TERMS, NUMBERS);
        check.text("of nothing", Told.lines(new ReleaseDesk()), NO_LINES);
        ReleaseDesk desk = desk(8);
        Told.rule(desk, "*", 1, 33, 0);
        check.text("of silent changes", Told.lines(desk), NO_LINES);
        desk = desk(8);
        desk.branch();
        check.text("of builds that are the same", Told.lines(desk), NO_LINES);
    }

    private static void linesOfEachWeight(Check check) {
        check.about(TERMS, LINES);
        String[] due = {NO_LINES, "N a.A 1\n0 0 1", "W a.A 1\n0 1 0", "B a.A 1\n1 0 0"};
        for (int weight = 0; weight <= 3; weight++) {
            ReleaseDesk desk = desk(1);
            Told.rule(desk, "*", 1, 1, weight);
            check.text("with weight " + weight, Told.lines(desk), due[weight]);
        }
    }

    private static void newlineBehindEach(Check check) {
        check.about(TERMS, "its CODE in digits, and character 10");
        StringBuilder due = new StringBuilder();
        for (int types = 1; types <= 8; types++) {
            due.append("B a.").append("ABCDEFGH".charAt(types - 1)).append(" 1\n");
            check.text("of " + types, Told.lines(desk(types)), due + "" + types + " 0 0");
        }
    }

    private static void codesInDigits(Check check) {
        check.about(TERMS, "its CODE in digits");
        for (int code : Single.CODES) {
            ReleaseDesk desk = Single.desk(code);
            Told.rule(desk, "*", code, code, 1);
            check.text("of code " + code, Told.lines(desk), "N " + Single.name(code) + " " + code
                + "\n0 0 1");
            desk = Single.desk(code);
            Told.rule(desk, "*", code, code, 2);
            boolean adds = code == 3 || code == 11 || code >= 23 && code <= 25 || code == 33;
            check.text("in JSON, of code " + code, Told.report(desk, true), "{\"changes\":[{\"w\":2,\"n\":\""
                + Single.name(code) + "\",\"c\":" + code + "}],\"advice\":\""
                + (adds ? "1.1.0" : "1.0.1") + "\"}");
        }
    }

    private static void threeNumbers(Check check) {
        check.about(TERMS, NUMBERS);
        for (int breaks = 0; breaks < 3; breaks++) {
            for (int warnings = 0; warnings < 3; warnings++) {
                for (int notes = 0; notes < 3; notes++) {
                    ReleaseDesk desk = desk(breaks + warnings + notes);
                    Told.rule(desk, "*", 1, 1, 3);
                    for (int t = breaks; t < breaks + warnings + notes; t++) {
                        Told.rule(desk, "a." + "ABCDEF".charAt(t), 1, 1, t < breaks + warnings ? 2 : 1);
                    }
                    String report = Told.lines(desk);
                    check.text("of " + breaks + ", " + warnings + " and " + notes,
                        report.substring(report.lastIndexOf('\n') + 1),
                        breaks + " " + warnings + " " + notes);
                }
            }
        }
    }

    /** A desk on which as many members are gone, all with this weight. */
    private static ReleaseDesk members(int count, int weight) {
        ReleaseDesk desk = new ReleaseDesk();
        for (int t = 0; t < 8; t++) {
            desk.type(0, t, 1, -1, 0);
        }
        desk.branch();
        for (int made = 0; made < count; made++) {
            int slot = made / 8;
            desk.member(0, made % 8, slot >= 12, slot % 12, Mode.PUBLIC);
        }
        Told.rule(desk, "*", 1, 33, weight);
        return desk;
    }

    private static void numbersOfMoreDigits(Check check) {
        check.about(TERMS, NUMBERS);
        for (int weight = 1; weight <= 3; weight++) {
            for (int count : new int[] {9, 10, 11, 99, 100, 101, 192}) {
                String due = (weight == 3 ? count : 0) + " " + (weight == 2 ? count : 0) + " "
                    + (weight == 1 ? count : 0);
                ReleaseDesk desk = members(count, weight);
                int length = desk.report(false, -1);
                StringBuilder tail = new StringBuilder();
                for (int k = length - due.length() - 1; k < length; k++) {
                    tail.append((char) desk.report(false, k));
                }
                check.text("of " + count, tail.toString(), "\n" + due);
            }
        }
    }

    private static void noJson(Check check) {
        check.about(TERMS, "In JSON: {\"changes\":[ and for each");
        check.text("of nothing", Told.report(new ReleaseDesk(), true), NO_JSON);
        ReleaseDesk desk = desk(8);
        Told.rule(desk, "*", 1, 33, 0);
        check.text("of silent changes", Told.report(desk, true), NO_JSON);
    }

    private static void jsonOfEachWeight(Check check) {
        check.about(TERMS, "{\"w\":, the WEIGHT, ,\"n\":\", the NAME, \",\"c\":, the CODE, }");
        for (int weight = 1; weight <= 3; weight++) {
            ReleaseDesk desk = desk(1);
            Told.rule(desk, "*", 1, 1, weight);
            check.text("with weight " + weight, Told.report(desk, true), "{\"changes\":[{\"w\":" + weight
                + ",\"n\":\"a.A\",\"c\":1}],\"advice\":\"" + (weight == 3 ? "2.0.0" : "1.0.1") + "\"}");
        }
    }

    private static void commas(Check check) {
        check.about(TERMS, COMMAS);
        StringBuilder due = new StringBuilder("{\"changes\":[");
        for (int types = 1; types <= 8; types++) {
            due.append(types == 1 ? "" : ",").append("{\"w\":3,\"n\":\"a.")
                .append("ABCDEFGH".charAt(types - 1)).append("\",\"c\":1}");
            check.text("of " + types, Told.report(desk(types), true), due + "],\"advice\":\"2.0.0\"}");
        }
    }

    private static void adviceInJson(Check check) {
        check.about(TERMS, ADVICE);
        int[][] versions = {{0, 0, 0}, {0, 0, 9}, {0, 9, 99}, {9, 99, 998}, {9, 99, 999}, {99, 999, 999},
            {999, 998, 999}, {999, 999, 998}, {999, 999, 999}};
        String[] due = {"0.0.1", "0.0.10", "0.9.100", "9.99.999", "9.100.0", "100.0.0", "999.999.0",
            "999.999.999", "1000.0.0"};
        for (int k = 0; k < due.length; k++) {
            ReleaseDesk desk = new ReleaseDesk();
            desk.version(versions[k][0], versions[k][1], versions[k][2]);
            check.text("after the last of " + due[k], Told.report(desk, true),
                "{\"changes\":[],\"advice\":\"" + due[k] + "\"}");
        }
        ReleaseDesk desk = desk(1);
        desk.version(999, 0, 0);
        check.text("with a break", Told.report(desk, true),
            "{\"changes\":[{\"w\":3,\"n\":\"a.A\",\"c\":1}],\"advice\":\"1000.0.0\"}");
    }

    private static void noOtherCharacters(Check check) {
        check.about(TERMS, "(no blanks, no other characters)");
        ReleaseDesk desk = new ReleaseDesk();
        desk.type(0, 7, 33, -1, 0);
        desk.type(1, 7, 37, -1, 0);
        desk.member(0, 7, Mode.METHOD, 11, Mode.PUBLIC);
        desk.member(1, 7, Mode.FIELD, 11, Mode.PUBLIC);
        check.text("in JSON", Told.report(desk, true), "{\"changes\":[{\"w\":3,\"n\":\"c.H\",\"c\":6},"
            + "{\"w\":3,\"n\":\"c.H.d(int,long)\",\"c\":20},{\"w\":1,\"n\":\"c.H.d:double\",\"c\":23}],"
            + "\"advice\":\"2.0.0\"}");
        check.text("in lines", Told.lines(desk),
            "B c.H 6\nB c.H.d(int,long) 20\nN c.H.d:double 23\n2 0 1");
    }

    /** A desk with changes of all types and members, each of them a break. */
    private static ReleaseDesk all() {
        ReleaseDesk desk = new ReleaseDesk();
        for (int t = 0; t < 8; t++) {
            desk.type(0, t, 1, (t + 1) % 8, 0);
            for (int slot = 0; slot < 24; slot++) {
                desk.member(0, t, slot >= 12, slot % 12, Mode.PUBLIC);
            }
        }
        desk.branch();
        for (int t = 0; t < 8; t++) {
            desk.type(1, t, 7 + Mode.PACKAGE_B, -1, 0);
            for (int slot = 0; slot < 24; slot++) {
                desk.member(1, t, slot >= 12, slot % 12, Mode.PROTECTED | 7);
            }
        }
        return desk;
    }

    private static String allNames(String head, String tail) {
        StringBuilder report = new StringBuilder();
        for (char type = 'A'; type <= 'H'; type++) {
            for (int code : new int[] {4, 5, 6, 10}) {
                report.append(head).append("a.").append(type).append(tail).append(code).append('\n');
            }
            for (char letter = 'a'; letter <= 'd'; letter++) {
                for (String end : new String[] {"()", "(int)", "(int,long)", ":double", ":int", ":long"}) {
                    int[] codes = end.charAt(0) == '(' ? new int[] {22, 26, 27, 29} : new int[] {22, 26, 27};
                    for (int code : codes) {
                        report.append(head).append("a.").append(type).append('.').append(letter)
                            .append(end).append(tail).append(code).append('\n');
                    }
                }
            }
        }
        return report.toString();
    }

    /** Too long for one desk to tell all of, so desks that are the same tell a stretch each. */
    private static void longReport(Check check) {
        check.about(PROMISE, "with k = -1 how many it has; NONE for another k");
        String lines = allNames("B ", " ") + "704 0 0";
        String json = "{\"changes\":[" + allNames("{\"w\":3,\"n\":\"", "\",\"c\":").trim()
            .replace("\n", "},") + "}],\"advice\":\"2.0.0\"}";
        for (boolean form : FORMS) {
            String due = form ? json : lines;
            check.same("length", all().report(form, -1), due.length());
            check.same("behind the last", all().report(form, due.length()), ReleaseDesk.NONE);
            for (int from = 0; from < due.length(); from += 100) {
                ReleaseDesk desk = all();
                for (int k = from; k < from + 100 && k < due.length(); k++) {
                    check.same("character " + k, desk.report(form, k), due.charAt(k));
                }
            }
        }
    }

    private static void fullest(Check check) {
        check.about(TERMS, NUMBERS);
        // The names of all methods of a type are 128 characters long, of all its fields 124. Beside a
        // name stand 4 characters and the code in lines, 19 and the code, and a comma, in JSON.
        int names = 6 * 3 + 4 * (128 + 124);
        int codes = 4 * 1 + 2 * 2 + 96 * 2;
        int lines = 8 * (names + codes + 102 * 4) + "520 96 200".length();
        int json = 8 * (names + codes + 102 * 20) - 1 + "{\"changes\":[],\"advice\":\"2.0.0\"}".length();
        ReleaseDesk desk = Fullest.desk();
        check.same("how many in lines", desk.report(false, -1), lines);
        check.same("how many in JSON", desk.report(true, -1), json);
        check.same("behind the last in lines", desk.report(false, lines), ReleaseDesk.NONE);
        check.same("behind the last in JSON", desk.report(true, json), ReleaseDesk.NONE);
        StringBuilder tail = new StringBuilder();
        for (int k = lines - 11; k < lines; k++) {
            tail.append((char) desk.report(false, k));
        }
        check.text("the three numbers", tail.toString(), "\n520 96 200");
    }

    private static void changesNothing(Check check) {
        check.about(PROMISE, "Character k (0 the first) of THE REPORT in lines (json false) or JSON (true)");
        for (boolean form : FORMS) {
            char first = form ? '{' : 'B';
            Unchanged.onBusyDesk(check, "report(" + form + ", 0)", first, desk -> desk.report(form, 0));
            Unchanged.onBusyDesk(check, "report(" + form + ", 9999)", ReleaseDesk.NONE,
                desk -> desk.report(form, 9999));
            Unchanged.onBusyDesk(check, "report(" + form + ", -2)", ReleaseDesk.NONE,
                desk -> desk.report(form, -2));
        }
        Unchanged.after(desk -> { }, check, "report(false, -1) of nothing", NO_LINES.length(),
            desk -> desk.report(false, -1));
        Unchanged.after(desk -> { }, check, "report(true, -1) of nothing", NO_JSON.length(),
            desk -> desk.report(true, -1));
    }
}
