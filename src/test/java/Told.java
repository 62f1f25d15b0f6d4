/** Reads from a desk what it tells in pieces, and tells it patterns. */
final class Told {
    private Told() {
    }

    static String report(ReleaseDesk desk, boolean json) {
        StringBuilder text = new StringBuilder();
        int length = desk.report(json, -1);
        for (int k = 0; k < length; k++) {
            text.append((char) desk.report(json, k));
        }
        return text.toString();
    }

    static String lines(ReleaseDesk desk) {
        return report(desk, false);
    }

    /** The codes of the list with blanks between. */
    static String codes(ReleaseDesk desk) {
        StringBuilder text = new StringBuilder();
        int size = desk.list();
        for (int k = 0; k < size; k++) {
            text.append(k == 0 ? "" : " ").append(desk.change(k, 0));
        }
        return text.toString();
    }

    static void spell(ReleaseDesk desk, String pattern) {
        for (int i = 0; i < pattern.length(); i++) {
            desk.letter(pattern.charAt(i));
        }
    }

    static int rule(ReleaseDesk desk, String pattern, int low, int high, int weight) {
        spell(desk, pattern);
        return desk.rule(low, high, weight);
    }
}
