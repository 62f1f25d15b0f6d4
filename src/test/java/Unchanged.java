import java.util.IdentityHashMap;
import java.util.Map;

/** Looks whether a call leaves a desk as it was. */
final class Unchanged {
    private static final Calls NOTHING = desk -> { };
    private static final Calls BUSY = Busy::fill;
    private static final Map<Calls, String> ACCOUNTS = new IdentityHashMap<>();

    private Unchanged() {
    }

    /** The call gives this answer and changes nothing, on a new desk and on a busy one. */
    static void by(Check check, String told, long due, Call call) {
        after(NOTHING, check, told + " on a new desk", due, call);
        after(BUSY, check, told + " on a busy desk", due, call);
    }

    static void onBusyDesk(Check check, String told, long due, Call call) {
        after(BUSY, check, told + " on a busy desk", due, call);
    }

    /** The call gives this answer and changes nothing, after a run of at most 60 calls. */
    static void after(Calls run, Check check, String told, long due, Call call) {
        ReleaseDesk desk = new ReleaseDesk();
        run.on(desk);
        check.same(told, call.on(desk), due);
        String was = ACCOUNTS.computeIfAbsent(run, Account::after);
        String is = Account.after(other -> {
            run.on(other);
            call.on(other);
        });
        check.text("what changed by " + told, difference(was, is), "");
    }

    private static String difference(String was, String is) {
        String[] before = was.split("\n");
        String[] after = is.split("\n");
        for (int i = 0; i < before.length && i < after.length; i++) {
            if (!before[i].equals(after[i])) {
                return before[i] + " -> " + after[i];
            }
        }
        return before.length == after.length ? "" : before.length + " -> " + after.length + " lines";
    }
}
