/** When a type or a member is SEEN, under 'Terms', for promises 12 and 13: each boundary. */
final class SightEdgesTest {
    private static final String PROMISE = "Promise 12, Terms";
    private static final String TYPE_SEEN = "A TYPE is SEEN if it is THERE and PUBLIC";
    private static final String MEMBER_SEEN = "A MEMBER is SEEN if its TYPE is SEEN, and it is PUBLIC,"
        + " or PROTECTED and its TYPE not FINAL";

    public static void main(String[] args) {
        Check check = new Check();
        thereAndPublic(check);
        publicMember(check);
        protectedMember(check);
        memberOfATypeNotSeen(check);
        nothing(check);
        check.end();
    }

    private static void thereAndPublic(Check check) {
        check.about(PROMISE, TYPE_SEEN);
        for (int flags = 0; flags < 48; flags++) {
            boolean seen = (flags & Mode.PUBLIC_TYPE) > 0;
            check.text("flags " + flags + " in OLD", Told.allCodes(Single.types(flags, -1)),
                seen ? "1" : "");
            check.text("flags " + flags + " in NEW", Told.allCodes(Single.types(-1, flags)),
                seen ? "3" : "");
        }
        ReleaseDesk desk = Single.types(1, 1);
        desk.drop(0, 0);
        desk.drop(1, 0);
        check.text("dropped in both", Told.allCodes(desk), "");
    }

    private static void publicMember(Check check) {
        check.about(PROMISE, MEMBER_SEEN);
        for (boolean method : new boolean[] {Mode.FIELD, Mode.METHOD}) {
            for (int typeFlags = 1; typeFlags < 16; typeFlags += 2) {
                check.text("public in flags " + typeFlags, lost(method, typeFlags, Mode.PUBLIC), "20");
                check.text("public in flags " + typeFlags, won(method, typeFlags, Mode.PUBLIC), "23");
            }
        }
    }

    private static void protectedMember(Check check) {
        check.about(PROMISE, MEMBER_SEEN);
        for (boolean method : new boolean[] {Mode.FIELD, Mode.METHOD}) {
            for (int typeFlags = 1; typeFlags < 16; typeFlags += 2) {
                boolean isFinal = (typeFlags & Mode.FINAL_TYPE) > 0;
                String told = " in flags " + typeFlags;
                check.text("protected" + told, lost(method, typeFlags, Mode.PROTECTED),
                    isFinal ? "" : "20");
                check.text("protected" + told, won(method, typeFlags, Mode.PROTECTED),
                    isFinal ? "" : "23");
                check.text("package" + told, lost(method, typeFlags, Mode.PACKAGE), "");
                check.text("package" + told, won(method, typeFlags, Mode.PACKAGE), "");
                check.text("private" + told, lost(method, typeFlags, Mode.PRIVATE), "");
                check.text("private" + told, won(method, typeFlags, Mode.PRIVATE), "");
            }
        }
        ReleaseDesk desk = Single.types(1, 1);
        desk.member(0, 0, Mode.METHOD, 0, Mode.PROTECTED | Mode.FINAL);
        check.text("a protected final one is seen all the same", Told.allCodes(desk), "20");
    }

    /** The codes for a member that OLD alone has. */
    private static String lost(boolean method, int typeFlags, int mode) {
        ReleaseDesk desk = Single.types(typeFlags, typeFlags);
        desk.member(0, 0, method, 0, mode);
        return Told.allCodes(desk);
    }

    private static String won(boolean method, int typeFlags, int mode) {
        ReleaseDesk desk = Single.types(typeFlags, typeFlags);
        desk.member(1, 0, method, 0, mode);
        return Told.allCodes(desk);
    }

    private static void memberOfATypeNotSeen(Check check) {
        check.about(PROMISE, "A MEMBER is SEEN if its TYPE is SEEN");
        ReleaseDesk desk = new ReleaseDesk();
        desk.type(0, 0, 1, 1, 0);
        desk.type(0, 1, 0, -1, 0);
        desk.member(0, 0, Mode.METHOD, 0, Mode.PUBLIC);
        desk.member(0, 1, Mode.METHOD, 0, Mode.PUBLIC);
        desk.branch();
        desk.remove(1, 0, Mode.METHOD, 0);
        check.text("a public one above, in a type not seen, is none to inherit", Told.allCodes(desk),
            "20");
        desk.type(1, 1, 1, -1, 0);
        desk.type(0, 1, 1, -1, 0);
        check.text("in a type that is seen it is", Told.allCodes(desk), "21");
    }

    private static void nothing(Check check) {
        check.about(PROMISE, "SEEN in neither: nothing");
        for (int old : new int[] {-1, 0, 14, 46}) {
            for (int young : new int[] {-1, 0, 30, 14}) {
                ReleaseDesk desk = Single.types(old, young);
                desk.member(0, 0, Mode.METHOD, 0, Mode.PUBLIC);
                desk.member(1, 0, Mode.FIELD, 0, Mode.PUBLIC);
                check.text("from " + old + " to " + young, Told.allCodes(desk), "");
            }
        }
        for (boolean method : new boolean[] {Mode.FIELD, Mode.METHOD}) {
            ReleaseDesk desk = Single.members(method, Mode.PRIVATE, Mode.PACKAGE | 7);
            check.text("a member", Told.allCodes(desk), "");
            desk = Single.members(method, Mode.PACKAGE, -1);
            check.text("a member that is gone", Told.allCodes(desk), "");
            desk = Single.members(method, -1, Mode.PACKAGE);
            check.text("a member that has come", Told.allCodes(desk), "");
        }
    }
}
