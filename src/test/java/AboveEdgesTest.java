/** What is ABOVE a type, under 'Terms', and codes 10 and 11, for promises 12 and 13: each boundary. */
final class AboveEdgesTest {
    private static final String PROMISE = "Promise 12, Terms";
    private static final int PUBLIC = Mode.PUBLIC_TYPE;

    public static void main(String[] args) {
        Check check = new Check();
        superAndFaces(check);
        aboveOfThese(check);
        longestWay(check);
        asFarAsThere(check);
        comesAgain(check);
        itselfNot(check);
        lostOnce(check);
        wonOnce(check);
        lostWhereNotSeen(check);
        wonWhereNotSeen(check);
        anotherWay(check);
        lostAndWon(check);
        check.end();
    }

    /** Types 0 to 7 in both builds, of which just these are seen, without supers and faces. */
    private static ReleaseDesk desk(int... seen) {
        ReleaseDesk desk = new ReleaseDesk();
        for (int t = 0; t < 8; t++) {
            desk.type(0, t, 0, -1, 0);
        }
        for (int t : seen) {
            desk.type(0, t, PUBLIC, -1, 0);
        }
        desk.branch();
        return desk;
    }

    private static void superAndFaces(Check check) {
        check.about(PROMISE, "The ABOVE of a TYPE are its SUPER, its FACES");
        for (int above = 1; above < 8; above++) {
            ReleaseDesk desk = desk(0, above);
            desk.type(1, 0, PUBLIC, above, 0);
            check.text("super " + above, Told.codes(desk), "11");
            desk.type(1, 0, PUBLIC, -1, 1 << above);
            check.text("face " + above, Told.codes(desk), "11");
            desk.type(1, 0, PUBLIC, above == 7 ? 1 : 7, 1 << above);
            check.text("face " + above + " beside another super", Told.codes(desk), "11");
            desk.type(1, 0, PUBLIC, above, 254 - (1 << above));
            check.text("super " + above + " beside other faces", Told.codes(desk), "11");
            desk.type(1, 0, PUBLIC, -1, 254 - (1 << above));
            check.text("without " + above, Told.codes(desk), "");
        }
    }

    private static void aboveOfThese(Check check) {
        check.about(PROMISE, "and the ABOVE of these");
        for (int way = 0; way < 4; way++) {
            ReleaseDesk desk = desk(0, 5);
            desk.type(1, 0, PUBLIC, way / 2 == 0 ? 3 : -1, way / 2 == 0 ? 0 : 1 << 3);
            check.text("one step", Told.codes(desk), "");
            desk.type(1, 3, 0, way % 2 == 0 ? 5 : -1, way % 2 == 0 ? 0 : 1 << 5);
            check.text("two steps, over a type that is not seen", Told.codes(desk), "11");
        }
    }

    private static void longestWay(Check check) {
        check.about(PROMISE, "and the ABOVE of these");
        // Both orders of the numbers along the way, as a search may follow one of them faster.
        int[][] ways = {{0, 1, 2, 3, 4, 5, 6, 7}, {7, 6, 5, 4, 3, 2, 1, 0}, {0, 7, 1, 6, 2, 5, 3, 4}};
        for (int[] way : ways) {
            for (int last = 1; last < 8; last++) {
                ReleaseDesk desk = desk(way[0], way[last]);
                for (int step = 0; step < last; step++) {
                    int flags = step == 0 ? PUBLIC : 0;
                    desk.type(1, way[step], flags, step % 2 == 0 ? way[step + 1] : -1,
                        step % 2 == 0 ? 0 : 1 << way[step + 1]);
                }
                check.text("a way of " + last + " steps", Told.codes(desk), "11");
            }
        }
    }

    private static void asFarAsThere(Check check) {
        check.about(PROMISE, "as far as they are THERE");
        ReleaseDesk desk = desk(0, 5);
        desk.type(1, 0, PUBLIC, 3, 0);
        desk.type(1, 3, 0, 5, 0);
        check.text("over one that is there", Told.codes(desk), "11");
        desk.drop(1, 3);
        check.text("over one that is not", Told.codes(desk), "");
        desk.type(1, 0, PUBLIC, 3, 32);
        check.text("over one that is not, and straight", Told.codes(desk), "11");
        desk.drop(1, 5);
        check.text("one that is not there itself", Told.codes(desk), "1");
        desk.drop(0, 5);
        check.text("in neither", Told.codes(desk), "");

        desk = desk(0, 5);
        desk.type(0, 0, PUBLIC, 5, 0);
        desk.branch();
        desk.drop(1, 5);
        check.text("one that is there no more is above no more", Told.codes(desk), "10 1");
        desk.branch();
        desk.drop(0, 5);
        check.text("one that was not there was not above", Told.codes(desk), "11 3");
    }

    private static void comesAgain(Check check) {
        check.about(PROMISE, "a TYPE that comes again is not looked at again");
        ReleaseDesk desk = desk(0, 5);
        desk.type(1, 0, PUBLIC, 1, 2 + 4 + 8);
        desk.type(1, 1, 0, 4, 0);
        desk.type(1, 2, 0, 4, 2);
        desk.type(1, 3, 0, 4, 16);
        check.text("many ways to one type", Told.codes(desk), "");
        desk.type(1, 4, 0, 5, 32);
        check.text("and on from it", Told.codes(desk), "11");
        desk.type(1, 4, 0, 1, 2 + 4 + 8);
        check.text("a ring apart from it", Told.codes(desk), "");
        desk.type(1, 2, 0, 2, 4 + 32);
        check.text("a ring, and a way out of it", Told.codes(desk), "11");

        desk = new ReleaseDesk();
        for (int t = 0; t < 8; t++) {
            desk.type(0, t, PUBLIC, t, 255);
            desk.type(1, t, PUBLIC, -1, 0);
        }
        check.text("all above all", Told.codes(desk), "10 10 10 10 10 10 10 10");
        desk.branch();
        check.text("in both", Told.codes(desk), "");
    }

    private static void itselfNot(Check check) {
        check.about(PROMISE, "itself does not count");
        for (int t = 0; t < 8; t++) {
            ReleaseDesk desk = desk(t);
            desk.type(1, t, PUBLIC, t, 0);
            check.text("type " + t + " its own super", Told.codes(desk), "");
            desk.type(1, t, PUBLIC, -1, 1 << t);
            check.text("type " + t + " its own face", Told.codes(desk), "");
            int other = (t + 3) % 8;
            desk.type(1, t, PUBLIC, other, 0);
            desk.type(1, other, 0, t, 0);
            check.text("type " + t + " over another", Told.codes(desk), "");
        }
        ReleaseDesk desk = desk(0);
        desk.member(0, 0, Mode.METHOD, 0, Mode.PROTECTED);
        desk.type(0, 0, PUBLIC, 0, 1);
        desk.branch();
        desk.remove(1, 0, Mode.METHOD, 0);
        check.text("it inherits nothing from itself", Told.allCodes(desk), "20");
    }

    private static void lostOnce(Check check) {
        check.about(PROMISE,
            "10 if a SEEN TYPE (in OLD) that was ABOVE it is not any more (once, however many)");
        for (int faces : new int[] {2, 128, 2 + 4, 254, 255}) {
            ReleaseDesk desk = desk(0, 1, 2, 3, 4, 5, 6, 7);
            desk.type(0, 0, PUBLIC, -1, faces);
            check.text("lost of faces " + faces, Told.codes(desk), "10");
            check.same("by type", desk.change(0, 2), 0);
            check.same("as one of the type itself", desk.change(0, 3), 0);
        }
        ReleaseDesk desk = desk(0, 1, 2, 3, 4, 5, 6, 7);
        desk.type(0, 0, PUBLIC, -1, 254);
        desk.type(1, 0, PUBLIC, -1, 254 - 16);
        check.text("one of many", Told.codes(desk), "10");
        desk.type(1, 0, PUBLIC, -1, 254);
        check.text("none of many", Told.codes(desk), "");
    }

    private static void wonOnce(Check check) {
        check.about(PROMISE, "11 if a SEEN TYPE (in NEW) is that was not");
        for (int faces : new int[] {2, 128, 2 + 4, 254, 255}) {
            ReleaseDesk desk = desk(0, 1, 2, 3, 4, 5, 6, 7);
            desk.type(1, 0, PUBLIC, -1, faces);
            check.text("won of faces " + faces, Told.codes(desk), "11");
            check.same("by type", desk.change(0, 2), 0);
            check.same("as one of the type itself", desk.change(0, 3), 0);
        }
    }

    private static void lostWhereNotSeen(Check check) {
        check.about(PROMISE, "10 if a SEEN TYPE (in OLD) that was ABOVE it is not any more");
        ReleaseDesk desk = desk(0);
        desk.type(0, 0, PUBLIC, 5, 0);
        check.text("one seen in neither", Told.codes(desk), "");
        desk.type(1, 5, PUBLIC, -1, 0);
        check.text("one seen in NEW alone", Told.codes(desk), "3");
        desk = desk(0, 5);
        desk.type(0, 0, PUBLIC, 5, 0);
        desk.type(1, 5, 0, -1, 0);
        check.text("one seen in OLD alone", Told.codes(desk), "10 2");
        desk.type(1, 0, PUBLIC, 5, 0);
        check.text("one that is above yet, though not seen", Told.codes(desk), "2");
    }

    private static void wonWhereNotSeen(Check check) {
        check.about(PROMISE, "11 if a SEEN TYPE (in NEW) is that was not");
        ReleaseDesk desk = desk(0);
        desk.type(1, 0, PUBLIC, 5, 0);
        check.text("one seen in neither", Told.codes(desk), "");
        desk.type(0, 5, PUBLIC, -1, 0);
        check.text("one seen in OLD alone", Told.codes(desk), "2");
        desk = desk(0);
        desk.type(1, 0, PUBLIC, 5, 0);
        desk.type(1, 5, PUBLIC, -1, 0);
        check.text("one seen in NEW alone", Told.codes(desk), "11 3");
        desk.type(0, 0, PUBLIC, 5, 0);
        check.text("one that was above before, though not seen", Told.codes(desk), "3");
    }

    private static void anotherWay(Check check) {
        check.about(PROMISE, "that was ABOVE it is not any more");
        ReleaseDesk desk = desk(0, 4, 5);
        desk.type(0, 0, PUBLIC, 5, 0);
        desk.type(1, 0, PUBLIC, -1, 32);
        check.text("a super that is a face now", Told.codes(desk), "");
        desk.type(1, 0, PUBLIC, 3, 0);
        desk.type(1, 3, 0, 5, 0);
        check.text("a super that is farther now", Told.codes(desk), "");
        desk.type(1, 0, PUBLIC, 4, 8);
        check.text("and one won beside it", Told.codes(desk), "11");
    }

    private static void lostAndWon(Check check) {
        check.about(PROMISE, "11 if a SEEN TYPE (in NEW) is that was not");
        ReleaseDesk desk = desk(0, 4, 5);
        desk.type(0, 0, PUBLIC, 4, 0);
        desk.type(1, 0, PUBLIC, 5, 0);
        check.text("one for another", Told.codes(desk), "10 11");
        // The type below takes part in both, so it has the same changes.
        desk.type(0, 6, PUBLIC, 0, 0);
        desk.type(1, 6, PUBLIC, 0, 0);
        check.text("from below too", Told.codes(desk), "10 10 11 11");
    }
}
