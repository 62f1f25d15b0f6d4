import java.util.ArrayList;
import java.util.Arrays;
import java.util.HashMap;
import java.util.HashSet;
import java.util.List;
import java.util.Map;
import java.util.Set;
import java.util.TreeMap;

/** A second reading of the document, in plain Java with texts and maps, for ModelTest. */
final class Model {
    private static final String[] FIELD_ENDS = {":int", ":long", ":double"};
    private static final String[] METHOD_ENDS = {"()", "(int)", "(int,long)"};
    private static final Set<Integer> BREAKS = Set.of(1, 2, 4, 5, 6, 8, 10, 20, 22, 26, 27, 29);
    private static final Set<Integer> WARNINGS = Set.of(24, 31, 32);
    private static final Set<Integer> NOTES = Set.of(3, 11, 23, 25, 33);

    static final class Member {
        int access;
        boolean isStatic;
        boolean isAbstract;
        boolean isFinal;
        Double constant;
    }

    static final class Type {
        char pack;
        boolean isPublic;
        boolean isInterface;
        boolean isAbstract;
        boolean isFinal;
        List<Integer> parents = new ArrayList<>();
        Map<String, Member> members = new TreeMap<>();
    }

    record Change(int code, int type, boolean method, int sign, String name, int weight) {
    }

    record Rule(String pattern, int low, int high, int weight) {
    }

    private final List<Map<Integer, Type>> builds = List.of(new HashMap<>(), new HashMap<>());
    private final List<Rule> rules = new ArrayList<>();
    private String pattern = "";
    private int[] released = {1, 0, 0};
    private final List<Change> found = new ArrayList<>();

    private static String key(boolean method, int sign) {
        return (method ? "method " : "field ") + sign;
    }

    private static boolean in(int number, int least, int most) {
        return least <= number && number <= most;
    }

    private Type typeAt(int build, int t) {
        return in(build, 0, 1) ? builds.get(build).get(t) : null;
    }

    boolean type(int build, int t, int flags, int above, int faces) {
        if (!in(build, 0, 1) || !in(t, 0, 7) || !in(flags, 0, 47) || !in(above, -1, 7)
                || !in(faces, 0, 255)) {
            return false;
        }
        Type type = builds.get(build).computeIfAbsent(t, any -> new Type());
        type.pack = "abc".charAt(flags >> 4);
        type.isPublic = (flags & 1) > 0;
        type.isInterface = (flags & 2) > 0;
        type.isAbstract = (flags & 4) > 0;
        type.isFinal = (flags & 8) > 0;
        type.parents.clear();
        if (above >= 0) {
            type.parents.add(above);
        }
        for (int u = 0; u < 8; u++) {
            if ((faces >> u) % 2 == 1) {
                type.parents.add(u);
            }
        }
        return true;
    }

    boolean drop(int build, int t) {
        return in(build, 0, 1) && builds.get(build).remove(t) != null;
    }

    boolean member(int build, int t, boolean method, int sign, int mode) {
        Type type = typeAt(build, t);
        if (type == null || !in(sign, 0, 11) || !in(mode, 0, 31)) {
            return false;
        }
        Member member = new Member();
        member.access = mode >> 3;
        member.isStatic = (mode & 1) > 0;
        member.isAbstract = (mode & 2) > 0;
        member.isFinal = (mode & 4) > 0;
        type.members.put(key(method, sign), member);
        return true;
    }

    boolean constant(int build, int t, int sign, double v) {
        Type type = typeAt(build, t);
        Member field = type == null ? null : type.members.get(key(false, sign));
        if (field == null) {
            return false;
        }
        field.constant = v;
        return true;
    }

    boolean remove(int build, int t, boolean method, int sign) {
        Type type = typeAt(build, t);
        return type != null && type.members.remove(key(method, sign)) != null;
    }

    int branch() {
        builds.get(1).clear();
        int count = 0;
        for (Map.Entry<Integer, Type> entry : builds.get(0).entrySet()) {
            Type from = entry.getValue();
            Type to = new Type();
            to.pack = from.pack;
            to.isPublic = from.isPublic;
            to.isInterface = from.isInterface;
            to.isAbstract = from.isAbstract;
            to.isFinal = from.isFinal;
            to.parents.addAll(from.parents);
            for (Map.Entry<String, Member> each : from.members.entrySet()) {
                Member copy = new Member();
                copy.access = each.getValue().access;
                copy.isStatic = each.getValue().isStatic;
                copy.isAbstract = each.getValue().isAbstract;
                copy.isFinal = each.getValue().isFinal;
                copy.constant = each.getValue().constant;
                to.members.put(each.getKey(), copy);
                count++;
            }
            builds.get(1).put(entry.getKey(), to);
        }
        return count;
    }

    int letter(int c) {
        if (!in(c, 33, 126)) {
            return -1;
        }
        if (pattern.length() == 12) {
            return -3;
        }
        pattern += (char) c;
        return pattern.length();
    }

    int rule(int low, int high, int weight) {
        if (!in(low, 1, 33) || !in(high, 1, 33) || low > high || !in(weight, 0, 3)) {
            return -1;
        }
        if (rules.size() == 8) {
            return -3;
        }
        rules.add(new Rule(pattern, low, high, weight));
        pattern = "";
        return rules.size();
    }

    int clear() {
        int count = rules.size();
        rules.clear();
        pattern = "";
        return count;
    }

    boolean version(int first, int second, int third) {
        if (!in(first, 0, 999) || !in(second, 0, 999) || !in(third, 0, 999)) {
            return false;
        }
        released = new int[] {first, second, third};
        return true;
    }

    private static boolean fit(String pattern, String text) {
        if (pattern.isEmpty()) {
            return text.isEmpty();
        }
        if (pattern.startsWith("**")) {
            return fit(pattern.substring(1), text);
        }
        if (pattern.charAt(0) == '*') {
            return fit(pattern.substring(1), text) || !text.isEmpty() && fit(pattern, text.substring(1));
        }
        return !text.isEmpty() && (pattern.charAt(0) == '?' || pattern.charAt(0) == text.charAt(0))
            && fit(pattern.substring(1), text.substring(1));
    }

    private static String name(Type type, int t, boolean method, int sign) {
        String name = type.pack + "." + "ABCDEFGH".charAt(t);
        if (sign < 0) {
            return name;
        }
        return name + "." + "abcd".charAt(sign / 3) + (method ? METHOD_ENDS : FIELD_ENDS)[sign % 3];
    }

    int fits(int build, int t, boolean method, int sign) {
        if (!in(build, 0, 1) || !in(t, 0, 7) || !in(sign, -1, 11)) {
            return -1;
        }
        Type type = typeAt(build, t);
        return type == null ? -2 : fit(pattern, name(type, t, method, sign)) ? 1 : 0;
    }

    private boolean seen(int build, int t) {
        Type type = typeAt(build, t);
        return type != null && type.isPublic;
    }

    private boolean seen(int build, int t, String key) {
        Member member = seen(build, t) ? typeAt(build, t).members.get(key) : null;
        return member != null && (member.access == 3 || member.access == 2 && !typeAt(build, t).isFinal);
    }

    private Set<Integer> above(int build, int t) {
        Set<Integer> met = new HashSet<>();
        climb(build, t, met);
        met.remove(t);
        return met;
    }

    private void climb(int build, int t, Set<Integer> met) {
        for (int parent : typeAt(build, t).parents) {
            if (typeAt(build, parent) != null && met.add(parent)) {
                climb(build, parent, met);
            }
        }
    }

    private void add(boolean applies, int code, int t, boolean method, int sign) {
        if (!applies) {
            return;
        }
        String name = name(typeAt(code == 3 ? 1 : 0, t), t, method, sign);
        int weight = BREAKS.contains(code) ? 3 : WARNINGS.contains(code) ? 2 : NOTES.contains(code) ? 1 : 0;
        for (Rule rule : rules) {
            if (in(code, rule.low, rule.high) && fit(rule.pattern, name)) {
                weight = rule.weight;
            }
        }
        if (weight > 0) {
            found.add(new Change(code, t, method, sign, name, weight));
        }
    }

    private void compareTypes(int t) {
        if (seen(0, t) && !seen(1, t)) {
            add(true, typeAt(1, t) == null ? 1 : 2, t, false, -1);
        } else if (!seen(0, t) && seen(1, t)) {
            add(true, 3, t, false, -1);
        } else if (seen(0, t)) {
            Type was = typeAt(0, t);
            Type is = typeAt(1, t);
            add(was.pack != is.pack, 4, t, false, -1);
            add(was.isInterface != is.isInterface, 5, t, false, -1);
            add(!was.isAbstract && is.isAbstract, 6, t, false, -1);
            add(was.isAbstract && !is.isAbstract, 7, t, false, -1);
            add(!was.isFinal && is.isFinal, 8, t, false, -1);
            add(was.isFinal && !is.isFinal, 9, t, false, -1);
            Set<Integer> lost = above(0, t);
            lost.removeAll(above(1, t));
            lost.removeIf(u -> !seen(0, u));
            add(!lost.isEmpty(), 10, t, false, -1);
            Set<Integer> won = above(1, t);
            won.removeAll(above(0, t));
            won.removeIf(u -> !seen(1, u));
            add(!won.isEmpty(), 11, t, false, -1);
            for (int sign = 0; sign < 12; sign++) {
                compareMembers(t, false, sign);
            }
            for (int sign = 0; sign < 12; sign++) {
                compareMembers(t, true, sign);
            }
        }
    }

    private void compareMembers(int t, boolean method, int sign) {
        String key = key(method, sign);
        Member was = typeAt(0, t).members.get(key);
        Member is = typeAt(1, t).members.get(key);
        if (seen(0, t, key) && !seen(1, t, key)) {
            boolean inherited = above(1, t).stream().anyMatch(u -> seen(1, u, key)
                && typeAt(1, u).members.get(key).access >= was.access);
            add(true, is != null ? 22 : inherited ? 21 : 20, t, method, sign);
        } else if (!seen(0, t, key) && seen(1, t, key)) {
            add(true, method && is.isAbstract ? 24 : 23, t, method, sign);
        } else if (seen(0, t, key)) {
            add(is.access < was.access, 22, t, method, sign);
            add(is.access > was.access, 25, t, method, sign);
            add(is.isStatic != was.isStatic, 26, t, method, sign);
            add(is.isFinal && !was.isFinal, 27, t, method, sign);
            add(!is.isFinal && was.isFinal, 28, t, method, sign);
            add(method && is.isAbstract && !was.isAbstract, 29, t, method, sign);
            add(method && !is.isAbstract && was.isAbstract, 30, t, method, sign);
            add(was.constant != null && is.constant != null && !was.constant.equals(is.constant), 31, t,
                method, sign);
            add(was.constant != null && is.constant == null, 32, t, method, sign);
            add(was.constant == null && is.constant != null, 33, t, method, sign);
        }
    }

    List<Change> changes() {
        found.clear();
        for (int t = 0; t < 8; t++) {
            compareTypes(t);
        }
        List<Change> sorted = new ArrayList<>(found);
        sorted.sort((x, y) -> x.weight != y.weight ? y.weight - x.weight : x.name.compareTo(y.name));
        return sorted;
    }

    int change(int k, int what) {
        if (!in(what, 0, 4)) {
            return -1;
        }
        List<Change> all = changes();
        if (!in(k, 0, all.size() - 1)) {
            return -2;
        }
        Change c = all.get(k);
        int kind = c.sign < 0 ? 0 : c.method ? 2 : 1;
        return new int[] {c.code, c.weight, c.type, kind, c.sign < 0 ? -2 : c.sign}[what];
    }

    double shift(int k) {
        List<Change> all = changes();
        if (!in(k, 0, all.size() - 1) || all.get(k).code != 31) {
            return 0;
        }
        String key = key(false, all.get(k).sign);
        return typeAt(1, all.get(k).type).members.get(key).constant
            - typeAt(0, all.get(k).type).members.get(key).constant;
    }

    private static long count(List<Change> all, int weight) {
        return all.stream().filter(c -> c.weight == weight).count();
    }

    private int[] advised(List<Change> all) {
        int[] next = released.clone();
        if (count(all, 3) > 0 && released[0] > 0) {
            next = new int[] {released[0] + 1, 0, 0};
        } else if (count(all, 3) > 0
                || all.stream().anyMatch(c -> Set.of(3, 11, 23, 24, 25, 33).contains(c.code))) {
            next = new int[] {released[0], released[1] + 1, 0};
        } else {
            next[2]++;
        }
        for (int i = 2; i > 0; i--) {
            if (next[i] == 1000) {
                next[i] = 0;
                next[i - 1]++;
            }
        }
        return next;
    }

    String report(boolean json) {
        List<Change> all = changes();
        StringBuilder text = new StringBuilder();
        if (!json) {
            for (Change c : all) {
                text.append(" NWB".charAt(c.weight) + " " + c.name + " " + c.code + "\n");
            }
            return text.append(count(all, 3) + " " + count(all, 2) + " " + count(all, 1)).toString();
        }
        List<String> parts = new ArrayList<>();
        for (Change c : all) {
            parts.add("{\"w\":" + c.weight + ",\"n\":\"" + c.name + "\",\"c\":" + c.code + "}");
        }
        int[] next = advised(all);
        return "{\"changes\":[" + String.join(",", parts) + "],\"advice\":\"" + next[0] + "." + next[1]
            + "." + next[2] + "\"}";
    }

    int advice() {
        int[] next = advised(changes());
        return next[0] * 1000000 + next[1] * 1000 + next[2];
    }

    int judge(int first, int second, int third) {
        if (!in(first, 0, 999) || !in(second, 0, 999) || !in(third, 0, 999)) {
            return -1;
        }
        List<Change> all = changes();
        int[] wished = {first, second, third};
        int verdict = Arrays.compare(wished, advised(all)) >= 0 ? 0
            : Arrays.compare(wished, released) > 0 ? 1 : 2;
        return verdict + (count(all, 3) > 0 ? 4 : 0) + (count(all, 2) > 0 ? 8 : 0);
    }
}
