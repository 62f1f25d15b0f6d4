/**
 * All that a desk can tell of itself after a run of calls, as a text. Most questions change what
 * others ask for, and a desk is good for 512 calls, so each group of them gets a desk of its own,
 * on which the run is made anew. The run has at most 60 calls.
 */
final class Account {
    private final Calls run;
    private final StringBuilder text = new StringBuilder();

    private Account(Calls run) {
        this.run = run;
    }

    static String after(Calls run) {
        Account account = new Account(run);
        account.tellList();
        account.tellReport();
        account.tellPattern();
        account.tellRules();
        account.tellMembers();
        account.tellBuild(0);
        account.tellBuild(1);
        return account.text.toString();
    }

    private ReleaseDesk desk() {
        ReleaseDesk desk = new ReleaseDesk();
        run.on(desk);
        return desk;
    }

    private void tell(String what) {
        text.append(what).append('\n');
    }

    private void tellChanges(ReleaseDesk desk) {
        int size = desk.list();
        for (int k = 0; k < size; k++) {
            tell("change " + desk.change(k, 0) + " weight " + desk.change(k, 1) + " type "
                + desk.change(k, 2) + " kind " + desk.change(k, 3) + " sign " + desk.change(k, 4)
                + " shift " + desk.shift(k));
        }
    }

    private void tellList() {
        ReleaseDesk desk = desk();
        tellChanges(desk);
        tell("advice " + desk.advice());
        tell("JSON " + desk.report(true, -1));
        for (int third = 0; third < 20; third++) {
            tell("judge 1.0." + third + " " + desk.judge(1, 0, third));
            tell("judge 4.5." + third + " " + desk.judge(4, 5, third));
        }
    }

    private void tellReport() {
        tell(Told.lines(desk()));
    }

    private void tellPattern() {
        ReleaseDesk desk = desk();
        for (int build = 0; build < 2; build++) {
            for (int t = 0; t < 8; t++) {
                StringBuilder fitting = new StringBuilder();
                for (int sign = 0; sign < 12; sign++) {
                    fitting.append(desk.fits(build, t, Mode.FIELD, sign));
                    fitting.append(desk.fits(build, t, Mode.METHOD, sign));
                }
                fitting.append(desk.fits(build, t, Mode.METHOD, -1));
                tell("fits in " + build + " type " + t + ": " + fitting);
            }
        }
        tell("letter " + desk.letter('!'));
    }

    private void tellRules() {
        tell("one rule more " + desk().rule(1, 33, 1));
        tell("rules " + desk().clear());
    }

    private void tellMembers() {
        ReleaseDesk desk = desk();
        for (int build = 0; build < 2; build++) {
            for (int t = 0; t < 8; t++) {
                StringBuilder held = new StringBuilder();
                for (int sign = 0; sign < 12; sign++) {
                    held.append(Told.bit(desk.remove(build, t, Mode.FIELD, sign)));
                    held.append(Told.bit(desk.remove(build, t, Mode.METHOD, sign)));
                }
                tell("members in " + build + " type " + t + ": " + held);
            }
        }
        for (int build = 0; build < 2; build++) {
            for (int t = 0; t < 8; t++) {
                tell("drop in " + build + " type " + t + ": " + desk.drop(build, t));
            }
        }
    }

    /** What a build holds, told by its changes against one of plain types that have all members. */
    private void tellBuild(int build) {
        ReleaseDesk desk = desk();
        int plain = 1 - build;
        for (int t = 0; t < 8; t++) {
            desk.type(plain, t, Mode.PUBLIC_TYPE, -1, 0);
            for (int sign = 0; sign < 12; sign++) {
                desk.member(plain, t, Mode.METHOD, sign, Mode.PUBLIC);
                desk.member(plain, t, Mode.FIELD, sign, Mode.PUBLIC);
                desk.constant(plain, t, sign, 1024);
            }
        }
        desk.clear();
        Told.rule(desk, "*", 1, 33, 1);
        // The many members that the build lacks are told by tellMembers.
        Told.rule(desk, "*", 20, 21, 0);
        Told.rule(desk, "*", 23, 23, 0);
        tell("build " + build);
        tellChanges(desk);
    }
}
