import java.util.ArrayList;
import java.util.Arrays;
import java.util.LinkedHashMap;
import java.util.List;
import java.util.Map;
import java.util.TreeSet;

/**
 * The document done the slow way, for comparing: all READINGS of the line are gone through one by
 * one, texts are taken apart at their operators, states are copied whole.
 */
final class Model {
    static final class Broken extends RuntimeException {
        private static final long serialVersionUID = 1L;

        Broken() {
            super("broken", null, false, false);
        }
    }

    static final class CantBe extends RuntimeException {
        private static final long serialVersionUID = 1L;
        final int clause;

        CantBe(int clause) {
            super("can't be", null, false, false);
            this.clause = clause;
        }
    }

    /** More readings than it is sensible to go through: the driver leaves the call out. */
    static final class TooMany extends RuntimeException {
        private static final long serialVersionUID = 1L;

        TooMany() {
            super("too many", null, false, false);
        }
    }

    static final class Kept {
        List<int[]> line = new ArrayList<>();
        int[] terms = {0, 1, 0};
        List<int[]> heard = new ArrayList<>();
        List<List<Grammar.Token>> metres = new ArrayList<>();
        List<List<Grammar.Token>> laws = new ArrayList<>();
        int force = -1;

        Kept copy() {
            Kept k = new Kept();
            for (int[] s : line) {
                k.line.add(s.clone());
            }
            k.terms = terms.clone();
            k.heard = new ArrayList<>(heard);
            k.metres = new ArrayList<>(metres);
            k.laws = new ArrayList<>(laws);
            k.force = force;
            return k;
        }
    }

    Kept now = new Kept();
    List<int[]> undo = new ArrayList<>();
    byte[] tape = new byte[0];
    int fault = -1;
    int mutes = 0;
    int stopped = -1;
    int status = 0;
    Kept weeksPaper = null;
    Kept[] images = new Kept[2];
    Map<Integer, Integer> refusals = new LinkedHashMap<>();

    private int refuse(int by) {
        status = by;
        refusals.merge(by, 1, Integer::sum);
        return by;
    }

    private int accept(int answer) {
        status = 0;
        return answer;
    }

    private int either(int answer) {
        return answer < 0 ? refuse(answer) : accept(answer);
    }

    // ---- the line and the tape

    int syllable(int weight, int ends, int meets) {
        if (weight < 0 || weight > 2 || ends < 0 || ends > 1 || meets < 0 || meets > 1) {
            return refuse(-1);
        }
        if (now.line.size() == 20) {
            return refuse(-5);
        }
        now.line.add(new int[] {weight, ends, meets});
        undo.clear();
        return accept(now.line.size() - 1);
    }

    int of(int syllable, int what) {
        if (syllable < 0 || syllable >= now.line.size() || what < 0 || what > 8) {
            return -1;
        }
        if (what < 3) {
            return now.line.get(syllable)[what];
        }
        if (what < 6) {
            return can(now, inForce(now), syllable, what - 3) ? 1 : 0;
        }
        return cost(now, inForce(now), syllable, what - 6);
    }

    int terms(int what, int value) {
        int[] top = {999, 10, 9};
        if (what < 0 || what > 2 || value < 0 || value > top[what]) {
            return refuse(-1);
        }
        int was = now.terms[what];
        now.terms[what] = value;
        undo.clear();
        return accept(was);
    }

    int feed(int... five) {
        if (tape.length + 20 > 400) {
            return -1;
        }
        java.nio.ByteBuffer b = java.nio.ByteBuffer.allocate(tape.length + 20);
        b.put(tape);
        for (int n : five) {
            b.putInt(n);
        }
        tape = b.array();
        return tape.length;
    }

    int end(int n) {
        if (n < 0 || n > tape.length) {
            return -1;
        }
        tape = Arrays.copyOf(tape, n);
        return n;
    }

    int row() {
        if (tape.length == 0) {
            return refuse(-6);
        }
        int came = 0;
        mutes = 0;
        for (int k = 0; k < tape.length; k += 3) {
            if (k + 3 <= tape.length && now.line.size() < 20 && tape[k] >= 0 && tape[k] <= 2
                    && (tape[k + 1] == 0 || tape[k + 1] == 1) && (tape[k + 2] == 0 || tape[k + 2] == 1)) {
                now.line.add(new int[] {tape[k], tape[k + 1], tape[k + 2]});
                came++;
            } else {
                mutes++;
            }
        }
        tape = new byte[0];
        undo.clear();
        return accept(came);
    }

    private byte[] takeTape() {
        byte[] text = tape;
        tape = new byte[0];
        return text;
    }

    // ---- texts

    int metre() {
        byte[] text = takeTape();
        if (now.metres.size() == 6) {
            return refuse(-5);
        }
        fault = Grammar.METRE.fault(text);
        if (fault == -1 && stepsOf(Grammar.tokens(text)) > 200) {
            fault = text.length;
        }
        if (fault != -1) {
            return refuse(-6);
        }
        now.metres.add(Grammar.tokens(text));
        return accept(now.metres.size() - 1);
    }

    int law() {
        byte[] text = takeTape();
        if (now.laws.size() == 6) {
            return refuse(-5);
        }
        fault = Grammar.LAW.fault(text);
        if (fault != -1) {
            return refuse(-6);
        }
        now.laws.add(Grammar.tokens(text));
        return accept(now.laws.size() - 1);
    }

    int orders() {
        int[] told = {stopped, fault};
        byte[] text = takeTape();
        stopped = -1;
        fault = Grammar.ORDERS.fault(text);
        if (fault != -1) {
            return refuse(-6);
        }
        Kept stateBefore = now.copy();
        List<int[]> undoBefore = new ArrayList<>(undo);
        try {
            return accept(run(Grammar.tokens(text)));
        } catch (CantBe e) {
            now = stateBefore;
            undo = undoBefore;
            stopped = e.clause;
            return refuse(-3);
        } catch (TooMany e) {
            now = stateBefore;
            undo = undoBefore;
            tape = text;
            stopped = told[0];
            fault = told[1];
            throw e;
        }
    }

    /** The pieces between tokens that stand in no bracket. */
    private static List<List<Grammar.Token>> split(List<Grammar.Token> tokens, String at) {
        List<List<Grammar.Token>> pieces = new ArrayList<>();
        pieces.add(new ArrayList<>());
        int depth = 0;
        for (Grammar.Token t : tokens) {
            depth += "([".contains(t.text) ? 1 : ")]".contains(t.text) ? -1 : 0;
            if (depth == 0 && t.text.equals(at)) {
                pieces.add(new ArrayList<>());
            } else {
                pieces.get(pieces.size() - 1).add(t);
            }
        }
        return pieces;
    }

    /** The place of the last (or first) of some tokens that stands in no bracket, -1 without. */
    private static int find(List<Grammar.Token> tokens, String ats, boolean last) {
        int depth = 0;
        int found = -1;
        for (int k = 0; k < tokens.size(); k++) {
            String t = tokens.get(k).text;
            depth += "([".contains(t) ? 1 : ")]".contains(t) ? -1 : 0;
            if (depth == 0 && (" " + ats + " ").contains(" " + t + " ") && (last || found < 0)) {
                found = k;
            }
        }
        return found;
    }

    interface Words {
        long told(String word, int number);
    }

    private static long checked(long value) {
        if (value > 1000000000L || value < -1000000000L) {
            throw new Broken();
        }
        return value;
    }

    private static long sum(List<Grammar.Token> t, Words words) {
        int at = find(t, "+ -", true);
        if (at > 0) {
            long left = sum(t.subList(0, at), words);
            long right = sum(t.subList(at + 1, t.size()), words);
            return checked(t.get(at).text.equals("+") ? left + right : left - right);
        }
        at = find(t, "* / %", true);
        if (at > 0) {
            long left = sum(t.subList(0, at), words);
            long right = sum(t.subList(at + 1, t.size()), words);
            if (t.get(at).text.equals("*")) {
                return checked(left * right);
            }
            if (right == 0) {
                throw new Broken();
            }
            return t.get(at).text.equals("/") ? left / right : left % right;
        }
        Grammar.Token first = t.get(0);
        if (first.text.equals("[")) {
            return sum(t.subList(1, t.size() - 1), words);
        }
        if (first.isNumber()) {
            return first.number();
        }
        return words.told(first.text, t.size() > 1 ? t.get(1).number() : -1);
    }

    private static boolean test(List<Grammar.Token> t, Words words) {
        List<List<Grammar.Token>> ors = split(t, "or");
        if (ors.size() > 1) {
            for (List<Grammar.Token> one : ors) {
                if (test(one, words)) {
                    return true;
                }
            }
            return false;
        }
        List<List<Grammar.Token>> ands = split(t, "and");
        if (ands.size() > 1) {
            for (List<Grammar.Token> one : ands) {
                if (!test(one, words)) {
                    return false;
                }
            }
            return true;
        }
        if (t.get(0).text.equals("not")) {
            return !test(t.subList(1, t.size()), words);
        }
        if (t.get(0).text.equals("(")) {
            return test(t.subList(1, t.size() - 1), words);
        }
        int at = find(t, "< > =", true);
        long left = sum(t.subList(0, at), words);
        long right = sum(t.subList(at + 1, t.size()), words);
        String sign = t.get(at).text;
        return sign.equals("<") ? left < right : sign.equals(">") ? left > right : left == right;
    }

    // ---- laws

    private static List<Grammar.Token> inForce(Kept k) {
        return k.force == -1 ? null : k.laws.get(k.force);
    }

    private static Words lawWords(Kept k, int p, int v) {
        return (word, number) -> {
            switch (word) {
                case "place": return p;
                case "weight": return k.line.get(p)[0];
                case "as": return v;
                case "ends": return k.line.get(p)[1];
                case "meets": return k.line.get(p)[2];
                case "count": return k.line.size();
                case "day": return k.terms[0];
                case "mood": return k.terms[2];
                default: throw new IllegalStateException(word);
            }
        };
    }

    /** What the clauses of a kind that HOLD tell: 0 for those without a SUM. */
    private static List<Long> holding(Kept k, List<Grammar.Token> law, String kind, int p, int v) {
        List<Long> told = new ArrayList<>();
        if (law == null) {
            return told;
        }
        Words words = lawWords(k, p, v);
        for (List<Grammar.Token> clause : split(law, ";")) {
            if (!clause.get(0).text.equals(kind)) {
                continue;
            }
            int at = find(clause, "if", false);
            try {
                if (at > 0 && !test(clause.subList(at + 1, clause.size()), words)) {
                    continue;
                }
                List<Grammar.Token> head = clause.subList(1, at > 0 ? at : clause.size());
                told.add(head.isEmpty() ? 0L : sum(head, words));
            } catch (Broken e) {
                continue;
            }
        }
        return told;
    }

    static boolean can(Kept k, List<Grammar.Token> law, int p, int v) {
        int[] s = k.line.get(p);
        boolean able;
        if (v == 2) {
            able = s[2] == 1 && p != k.line.size() - 1;
        } else {
            able = s[0] == v || s[0] == 2 || !holding(k, law, "allows", p, v).isEmpty();
        }
        return able && holding(k, law, "bars", p, v).isEmpty();
    }

    static int cost(Kept k, List<Grammar.Token> law, int p, int v) {
        List<Long> told = holding(k, law, "costs", p, v);
        if (!told.isEmpty()) {
            long last = told.get(told.size() - 1);
            return (int) (last < 0 ? 0 : last > 99 ? 99 : last);
        }
        if (v == 2) {
            return 1;
        }
        int weight = k.line.get(p)[0];
        return weight == v || weight == 2 ? 0 : 1;
    }

    // ---- metres

    private static List<List<Grammar.Token>> units(List<Grammar.Token> choice) {
        List<List<Grammar.Token>> units = new ArrayList<>();
        int depth = 0;
        for (int k = 0; k < choice.size(); k++) {
            String t = choice.get(k).text;
            boolean tail = depth > 0 || t.equals("times") || choice.get(k).isNumber();
            if (!tail) {
                units.add(new ArrayList<>());
            }
            depth += t.equals("(") ? 1 : t.equals(")") ? -1 : 0;
            units.get(units.size() - 1).add(choice.get(k));
        }
        return units;
    }

    private static int timesOf(List<Grammar.Token> unit) {
        int n = unit.size();
        return n > 2 && unit.get(n - 2).text.equals("times") ? unit.get(n - 1).number() : 1;
    }

    private static List<Grammar.Token> inside(List<Grammar.Token> unit) {
        int n = unit.size();
        boolean times = n > 2 && unit.get(n - 2).text.equals("times") && unit.get(n - 1).isNumber();
        return unit.subList(1, times ? n - 3 : n - 1);
    }

    static long stepsOf(List<Grammar.Token> metre) {
        long steps = 0;
        for (List<Grammar.Token> choice : split(metre, "or")) {
            for (List<Grammar.Token> unit : units(choice)) {
                steps += timesOf(unit) * (unit.get(0).text.equals("(") ? stepsOf(inside(unit)) : 1);
            }
        }
        return steps;
    }

    static int lengthOf(List<Grammar.Token> metre, boolean longest) {
        int found = -1;
        for (List<Grammar.Token> choice : split(metre, "or")) {
            int sum = 0;
            for (List<Grammar.Token> unit : units(choice)) {
                String t = unit.get(0).text;
                sum += timesOf(unit) * (t.equals("(") ? lengthOf(inside(unit), longest) : t.equals("cut") ? 0 : 1);
            }
            found = found < 0 || (longest ? sum > found : sum < found) ? sum : found;
        }
        return found;
    }

    /** Places that a metre can have come to from some places, along a row of v; all visited are noted. */
    private static TreeSet<Integer> go(List<Grammar.Token> metre, TreeSet<Integer> from, Kept k, int[] row,
            TreeSet<Integer> visited) {
        TreeSet<Integer> all = new TreeSet<>();
        for (List<Grammar.Token> choice : split(metre, "or")) {
            TreeSet<Integer> at = elide(from, row);
            for (List<Grammar.Token> unit : units(choice)) {
                for (int t = timesOf(unit); t > 0; t--) {
                    if (unit.get(0).text.equals("(")) {
                        at = go(inside(unit), at, k, row, visited);
                    } else {
                        at = elide(step(unit.get(0).text, at, k, row), row);
                    }
                    visited.addAll(at);
                }
            }
            all.addAll(at);
        }
        return all;
    }

    private static TreeSet<Integer> elide(TreeSet<Integer> from, int[] row) {
        TreeSet<Integer> all = new TreeSet<>(from);
        for (int p = 0; p < row.length; p++) {
            if (all.contains(p) && row[p] == 2) {
                all.add(p + 1);
            }
        }
        return all;
    }

    private static TreeSet<Integer> step(String word, TreeSet<Integer> from, Kept k, int[] row) {
        TreeSet<Integer> all = new TreeSet<>();
        for (int p : from) {
            if (word.equals("cut")) {
                if (p == 0 || k.line.get(p - 1)[1] == 1) {
                    all.add(p);
                }
            } else if (p < row.length && row[p] != 2
                    && (word.equals("any") || row[p] == (word.equals("long") ? 1 : 0))) {
                all.add(p + 1);
            }
        }
        return all;
    }

    private static boolean goesAlong(List<Grammar.Token> metre, Kept k, int[] row, boolean wholly) {
        TreeSet<Integer> start = elide(new TreeSet<>(List.of(0)), row);
        TreeSet<Integer> visited = new TreeSet<>(start);
        TreeSet<Integer> ends = go(metre, start, k, row, visited);
        return (wholly ? ends : visited).contains(row.length);
    }

    /** All rows of v for the first n syllables, in order; with some ways each. */
    private static List<int[]> rows(boolean[][] ways, int n) {
        List<int[]> rows = new ArrayList<>();
        rows.add(new int[0]);
        for (int p = 0; p < n; p++) {
            List<int[]> longer = new ArrayList<>();
            for (int[] row : rows) {
                for (int v = 0; v < 3; v++) {
                    if (ways[p][v]) {
                        int[] next = Arrays.copyOf(row, p + 1);
                        next[p] = v;
                        longer.add(next);
                    }
                }
            }
            if (longer.size() > 1500) {
                throw new TooMany();
            }
            rows = longer;
        }
        return rows;
    }

    private static boolean[][] ways(Kept k, List<Grammar.Token> law) {
        boolean[][] ways = new boolean[k.line.size()][3];
        for (int p = 0; p < ways.length; p++) {
            for (int v = 0; v < 3; v++) {
                ways[p][v] = can(k, law, p, v);
            }
        }
        return ways;
    }

    static List<int[]> taken(Kept k, List<Grammar.Token> metre, List<Grammar.Token> law) {
        List<int[]> taken = new ArrayList<>();
        for (int[] row : rows(ways(k, law), k.line.size())) {
            if (goesAlong(metre, k, row, true)) {
                taken.add(row);
            }
        }
        return taken;
    }

    static int fitting(Kept k) {
        int bits = 0;
        for (int m = 0; m < k.metres.size(); m++) {
            bits |= taken(k, k.metres.get(m), inForce(k)).isEmpty() ? 0 : 1 << m;
        }
        return bits;
    }

    private static int costOfRow(Kept k, List<Grammar.Token> law, int[] row) {
        int sum = 0;
        for (int p = 0; p < row.length; p++) {
            sum += cost(k, law, p, row[p]);
        }
        return sum;
    }

    /** The best reading and, behind it, what it costs; null without one. */
    private static int[] bestRow(Kept k, List<Grammar.Token> metre, List<Grammar.Token> law) {
        int[] best = null;
        int least = 0;
        for (int[] row : taken(k, metre, law)) {
            int costs = costOfRow(k, law, row);
            if (best == null || costs < least) {
                best = row;
                least = costs;
            }
        }
        if (best == null) {
            return null;
        }
        int[] told = Arrays.copyOf(best, best.length + 1);
        told[best.length] = least;
        return told;
    }

    int steps(int metre) {
        return metre < 0 || metre >= now.metres.size() ? -1 : (int) stepsOf(now.metres.get(metre));
    }

    int best(int metre, int i) {
        if (metre < 0 || metre >= now.metres.size() || i < -1 || i >= now.line.size()) {
            return -1;
        }
        int[] best = bestRow(now, now.metres.get(metre), inForce(now));
        return best == null ? -1 : i == -1 ? best[best.length - 1] : best[i];
    }

    int elisions(int metre) {
        if (metre < 0 || metre >= now.metres.size()) {
            return -1;
        }
        return taken(now, now.metres.get(metre), inForce(now)).stream()
            .mapToInt(row -> (int) Arrays.stream(row).filter(v -> v == 2).count()).min().orElse(-1);
    }

    int mend(int metre) {
        if (metre < 0 || metre >= now.metres.size()) {
            return -1;
        }
        boolean[][] can = ways(now, inForce(now));
        boolean[][] could = new boolean[can.length][];
        for (int p = 0; p < can.length; p++) {
            could[p] = new boolean[] {true, true, can[p][2]};
        }
        int fewest = -1;
        for (int[] row : rows(could, can.length)) {
            if (goesAlong(now.metres.get(metre), now, row, true)) {
                int mended = 0;
                for (int p = 0; p < row.length; p++) {
                    mended += can[p][row[p]] ? 0 : 1;
                }
                fewest = fewest < 0 ? mended : Math.min(fewest, mended);
            }
        }
        return fewest;
    }

    int reach(int metre) {
        if (metre < 0 || metre >= now.metres.size()) {
            return -1;
        }
        boolean[][] ways = ways(now, inForce(now));
        for (int n = now.line.size(); n > 0; n--) {
            for (int[] row : rows(ways, n)) {
                if (goesAlong(now.metres.get(metre), now, row, false)) {
                    return n;
                }
            }
        }
        return 0;
    }

    int length(int metre, int what) {
        return metre < 0 || metre >= now.metres.size() || what < 0 || what > 1 ? -1
            : lengthOf(now.metres.get(metre), what == 1);
    }

    int fits() {
        return fitting(now);
    }

    int heard(int p, int v) {
        if (p < 0 || p > 19 || v < 0 || v > 2) {
            return refuse(-1);
        }
        if (now.heard.size() == 6) {
            return refuse(-5);
        }
        now.heard.add(new int[] {p, v});
        return accept(now.heard.size());
    }

    int forget() {
        int was = now.heard.size();
        now.heard.clear();
        return was;
    }

    int canBe() {
        int bits = 0;
        for (int m = 0; m < now.metres.size(); m++) {
            for (int[] row : taken(now, now.metres.get(m), inForce(now))) {
                boolean so = true;
                for (int[] h : now.heard) {
                    so = so && h[0] < row.length && row[h[0]] == h[1];
                }
                bits |= so ? 1 << m : 0;
            }
        }
        return bits;
    }

    int listen(int what) {
        int bits = canBe();
        if (what < 0 || what > 1 || bits == 0 || now.line.isEmpty()) {
            return -1;
        }
        List<int[]> best = new ArrayList<>();
        for (int m = 0; m < now.metres.size(); m++) {
            if ((bits >> m & 1) == 1) {
                best.add(bestRow(now, now.metres.get(m), inForce(now)));
            }
        }
        int at = -1;
        int left = 99;
        for (int p = now.line.size() - 1; p >= 0; p--) {
            int[] by = new int[3];
            for (int[] row : best) {
                by[row[p]]++;
            }
            int most = Math.max(by[0], Math.max(by[1], by[2]));
            if (most <= left) {
                left = most;
                at = p;
            }
        }
        return what == 0 ? at : left;
    }

    long few(int k, int n) {
        if (k < 1 || k > 20 || n < 0 || n > 99) {
            return -1;
        }
        long[] parts = {1000000000000L};
        for (int s = 0; s < n; s++) {
            long[] next = new long[parts.length + 1];
            for (int j = 0; j < parts.length; j++) {
                next[j] += parts[j] * (10 - now.terms[1]) / 10;
                next[j + 1] += parts[j] * now.terms[1] / 10;
            }
            parts = next;
        }
        return Arrays.stream(parts).limit(k).sum();
    }

    int compare(int law, int metre) {
        if (law < -1 || law >= now.laws.size() || metre < 0 || metre >= now.metres.size()) {
            return -1;
        }
        int[] best = bestRow(now, now.metres.get(metre), law == -1 ? null : now.laws.get(law));
        return best == null ? -1 : best[best.length - 1];
    }

    // ---- changes

    int force(int law) {
        if (law < -1 || law >= now.laws.size()) {
            return refuse(-2);
        }
        int was = now.force;
        now.force = law;
        return accept(was);
    }

    /** kind, then what is needed to take it back */
    private void note(int... change) {
        undo.add(change);
        if (undo.size() > 16) {
            undo.remove(0);
        }
    }

    private int doWeigh(long syllable, long weight) {
        if (weight < 0 || weight > 2) {
            return -1;
        }
        if (syllable < 0 || syllable >= now.line.size()) {
            return -2;
        }
        int[] s = now.line.get((int) syllable);
        if (s[0] == weight) {
            return -3;
        }
        note(0, (int) syllable, s[0]);
        int was = s[0];
        s[0] = (int) weight;
        return was;
    }

    private int doToggle(long syllable, int kind) {
        if (syllable < 0 || syllable >= now.line.size()) {
            return -2;
        }
        int[] s = now.line.get((int) syllable);
        note(kind, (int) syllable, s[kind]);
        s[kind] = s[kind] == 0 ? 1 : 0;
        return s[kind];
    }

    private int doPass() {
        if (now.terms[0] == 999) {
            return -3;
        }
        int told = Integer.bitCount(fitting(now));
        note(3, now.terms[0]);
        now.terms[0]++;
        return told;
    }

    int weigh(int syllable, int weight) {
        return either(doWeigh(syllable, weight));
    }

    int ends(int syllable) {
        return either(doToggle(syllable, 1));
    }

    int meets(int syllable) {
        return either(doToggle(syllable, 2));
    }

    int pass() {
        return either(doPass());
    }

    int undo() {
        if (undo.isEmpty()) {
            return refuse(-3);
        }
        int[] last = undo.remove(undo.size() - 1);
        if (last[0] == 3) {
            now.terms[0] = last[1];
        } else {
            now.line.get(last[1])[last[0]] = last[2];
        }
        return accept(last[0]);
    }

    private int run(List<Grammar.Token> text) {
        int[] done = {0};
        int[] latest = {-1};
        Words words = (word, number) -> {
            switch (word) {
                case "day": return now.terms[0];
                case "done": return done[0];
                case "latest": return latest[0];
                case "count": return now.line.size();
                case "weight": return number < now.line.size() ? now.line.get(number)[0] : -1;
                case "scans": return number < now.metres.size()
                    ? taken(now, now.metres.get(number), inForce(now)).isEmpty() ? 0 : 1 : -1;
                default: throw new IllegalStateException(word);
            }
        };
        List<List<Grammar.Token>> clauses = split(text, ";");
        for (int c = 0; c < clauses.size(); c++) {
            List<Grammar.Token> clause = clauses.get(c);
            int ifAt = find(clause, "if", false);
            List<Grammar.Token> head = clause.subList(0, ifAt < 0 ? clause.size() : ifAt);
            int timesAt = find(head, "times", false);
            int times = timesAt < 0 ? 1 : head.get(timesAt + 1).number();
            head = head.subList(1, timesAt < 0 ? head.size() : timesAt);
            for (int t = 0; t < times; t++) {
                try {
                    if (ifAt > 0 && !test(clause.subList(ifAt + 1, clause.size()), words)) {
                        continue;
                    }
                } catch (Broken e) {
                    continue;
                }
                int answer;
                try {
                    answer = carryOut(clause.get(0).text, head, words);
                } catch (Broken e) {
                    throw new CantBe(c);
                }
                if (answer < 0) {
                    throw new CantBe(c);
                }
                if (clause.get(0).text.equals("pass")) {
                    latest[0] = answer;
                }
                done[0]++;
            }
        }
        return done[0];
    }

    private int carryOut(String kind, List<Grammar.Token> head, Words words) {
        switch (kind) {
            case "weigh":
                int to = find(head, "to", false);
                return doWeigh(sum(head.subList(0, to), words), sum(head.subList(to + 1, head.size()), words));
            case "end":
                return doToggle(sum(head, words), 1);
            case "meet":
                return doToggle(sum(head, words), 2);
            default:
                return doPass();
        }
    }

    int weeks(int seed, int n) {
        if (seed < 0 || seed > 1000000 || n < 1 || n > 60) {
            return refuse(-1);
        }
        if (now.line.isEmpty()) {
            return refuse(-3);
        }
        Kept paper = now.copy();
        long s = seed;
        int took = 0;
        for (int k = 0; k < n; k++) {
            if (paper.terms[0] >= 999) {
                break;
            }
            s = (s * 1103 + 12345) % 1000003;
            int[] syllable = paper.line.get((int) (s % paper.line.size()));
            s = (s * 1103 + 12345) % 1000003;
            int weight = (int) (s % 3);
            s = (s * 1103 + 12345) % 1000003;
            int kind = (int) (s % 4);
            if (kind <= 1) {
                syllable[0] = weight;
            } else {
                syllable[kind - 1] = 1 - syllable[kind - 1];
            }
            took += Integer.bitCount(fitting(paper));
            paper.terms[0]++;
        }
        weeksPaper = paper;
        return accept(took);
    }

    int drawn(int syllable, int what) {
        if (weeksPaper == null || syllable < 0 || syllable >= weeksPaper.line.size() || what < 0 || what > 2) {
            return -1;
        }
        return weeksPaper.line.get(syllable)[what];
    }

    int image(int k) {
        if (k < 0 || k > 1) {
            return refuse(-1);
        }
        images[k] = now.copy();
        return accept(0);
    }

    int back(int k) {
        if (k < 0 || k > 1) {
            return refuse(-1);
        }
        if (images[k] == null) {
            return refuse(-2);
        }
        now = images[k].copy();
        undo.clear();
        return accept(0);
    }

    int count(int what) {
        int[] by = {-1, -2, -3, -5, -6};
        switch (what) {
            case 0: return now.line.size();
            case 1: return now.metres.size();
            case 2: return now.heard.size();
            case 3: return now.laws.size();
            case 4: return undo.size();
            case 5: return tape.length;
            case 11: return now.force;
            case 12: case 13: case 14: return now.terms[what - 12];
            default: return what >= 6 && what <= 10 ? refusals.getOrDefault(by[what - 6], 0) : -1;
        }
    }
}
