/** Runs of 512 calls, chosen by fixed numbers, on a desk and on the model, which must answer alike. */
final class ModelTest {
    private static final int RUNS = 400;
    private static final int CALLS = 512;
    private static final String LETTERS = "***??..abcABCH():intlongdue,";

    private final Check check = new Check();
    private long seed;

    public static void main(String[] args) {
        ModelTest test = new ModelTest();
        for (int run = 0; run < RUNS; run++) {
            test.run(run);
        }
        test.check.end();
    }

    private int below(int bound) {
        seed = seed * 6364136223846793005L + 1442695040888963407L;
        return (int) Math.floorMod(seed >>> 33, (long) bound);
    }

    /** Mostly a number from least to most, now and then one just outside. */
    private int number(int least, int most) {
        if (below(60) == 0) {
            return below(2) == 0 ? least - 1 : most + 1;
        }
        return least + below(most - least + 1);
    }

    private void run(int run) {
        seed = run * 7919L + 17;
        ReleaseDesk desk = new ReleaseDesk();
        Model model = new Model();
        int types = 2 + below(7);
        int building = 20 + below(400);
        for (int call = 0; call < CALLS; call++) {
            String told = "run " + run + " call " + call;
            if (call == building) {
                check.same(told + " branch", desk.branch(), model.branch());
            } else if (call < building ? below(12) > 0 : below(3) == 0) {
                build(told, desk, model, call < building ? 0 : 1, types);
            } else if (below(4) == 0) {
                weigh(told, desk, model);
            } else {
                ask(told, desk, model, types);
            }
        }
    }

    private void build(String told, ReleaseDesk desk, Model model, int home, int types) {
        int build = below(12) == 0 ? number(0, 1) : home;
        int t = below(30) == 0 ? number(0, 7) : below(types);
        boolean method = below(2) == 0;
        int sign = number(0, 11);
        switch (below(10)) {
            case 0, 1 -> {
                int flags = number(0, 47) | (below(4) > 0 ? 1 : 0);
                int above = number(-1, 7);
                int faces = below(3) > 0 ? 0 : number(0, 255) & number(0, 255);
                check.same(told + " type", bit(desk.type(build, t, flags, above, faces)),
                    bit(model.type(build, t, flags, above, faces)));
            }
            case 2 -> {
                if (below(4) == 0) {
                    check.same(told + " drop", bit(desk.drop(build, t)), bit(model.drop(build, t)));
                }
            }
            case 3 -> check.same(told + " remove", bit(desk.remove(build, t, method, sign)),
                bit(model.remove(build, t, method, sign)));
            case 4, 5 -> {
                double v = below(5) * 0.75 - 1.5;
                check.same(told + " constant", bit(desk.constant(build, t, sign, v)),
                    bit(model.constant(build, t, sign, v)));
            }
            default -> {
                int mode = below(3) == 0 ? number(0, 31) : number(16, 31);
                check.same(told + " member", bit(desk.member(build, t, method, sign, mode)),
                    bit(model.member(build, t, method, sign, mode)));
            }
        }
    }

    private void weigh(String told, ReleaseDesk desk, Model model) {
        int dice = below(40);
        if (dice == 0) {
            check.same(told + " clear", desk.clear(), model.clear());
        } else if (dice < 8) {
            int low = number(1, 33);
            int high = below(3) == 0 ? number(1, 33) : low + below(10);
            int weight = number(0, 3);
            check.same(told + " rule", desk.rule(low, high, weight), model.rule(low, high, weight));
        } else {
            int c = below(30) == 0 ? number(33, 126) : LETTERS.charAt(below(LETTERS.length()));
            check.same(told + " letter", desk.letter(c), model.letter(c));
        }
    }

    private void ask(String told, ReleaseDesk desk, Model model, int types) {
        int first = below(3) == 0 ? 0 : below(5) == 0 ? number(0, 999) : below(4);
        int second = below(4) == 0 ? 999 : number(0, 5);
        int third = below(4) == 0 ? 999 : number(0, 5);
        boolean json = below(2) == 0;
        int k = number(0, Math.max(0, model.changes().size() - 1));
        switch (below(8)) {
            case 0 -> check.same(told + " list", desk.list(), model.changes().size());
            case 1 -> {
                int what = number(0, 4);
                check.same(told + " change", desk.change(k, what), model.change(k, what));
            }
            case 2 -> check.number(told + " shift", desk.shift(k), model.shift(k));
            case 3 -> reports(told, desk, model, json);
            case 4 -> check.same(told + " advice", desk.advice(), model.advice());
            case 5 -> check.same(told + " judge", desk.judge(first, second, third),
                model.judge(first, second, third));
            case 6 -> check.same(told + " version", bit(desk.version(first, second, third)),
                bit(model.version(first, second, third)));
            default -> {
                int build = number(0, 1);
                int t = below(types);
                boolean method = below(2) == 0;
                int sign = number(-1, 11);
                check.same(told + " fits", desk.fits(build, t, method, sign),
                    model.fits(build, t, method, sign));
            }
        }
    }

    private void reports(String told, ReleaseDesk desk, Model model, boolean json) {
        String due = model.report(json);
        if (below(4) == 0) {
            check.same(told + " report -1", desk.report(json, -1), due.length());
        } else {
            int k = number(0, due.length() - 1);
            long character = k >= 0 && k < due.length() ? due.charAt(k)
                : k == -1 ? due.length() : ReleaseDesk.NONE;
            check.same(told + " report " + k, desk.report(json, k), character);
        }
    }

    private static long bit(boolean answer) {
        return answer ? 1 : 0;
    }
}
