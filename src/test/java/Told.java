/** Reads from a desk what it tells in pieces, and tells it patterns. */
final class Told {
    private Told() {
    }

    static String report(ReleaseDesk desk, boolean json) {
        StringBuilder text = new StringBuilder();
        int length = desk.report(json, -1);
        for (int k = 0; k < length; k++) {
            text.append((char) desk.report(json, k));
        }
        return text.toString();
    }

    static String lines(ReleaseDesk desk) {
        return report(desk, false);
    }

    /** The codes of the list with blanks between. */
    static String codes(ReleaseDesk desk) {
        StringBuilder text = new StringBuilder();
        int size = desk.list();
        for (int k = 0; k < size; k++) {
            text.append(k == 0 ? "" : " ").append(desk.change(k, 0));
        }
        return text.toString();
    }

    /** The codes of all changes, those that are silent by themselves too, all in the weight of notes. */
    static String allCodes(ReleaseDesk desk) {
        desk.clear();
        rule(desk, "*", 1, 33, 1);
        String codes = codes(desk);
        desk.clear();
        return codes;
    }

    static void spell(ReleaseDesk desk, String pattern) {
        for (int i = 0; i < pattern.length(); i++) {
            desk.letter(pattern.charAt(i));
        }
    }

    static int rule(ReleaseDesk desk, String pattern, int low, int high, int weight) {
        spell(desk, pattern);
        return desk.rule(low, high, weight);
    }

    static long bit(boolean answer) {
        return answer ? 1 : 0;
    }

    /** Numbers outside of least to most: the two beside it, the two ends, and one that wraps into it. */
    static int[] outside(int least, int most) {
        return new int[] {least - 1, most + 1, least + 65536, Integer.MIN_VALUE, Integer.MAX_VALUE};
    }
}
