import java.util.ArrayList;
import java.util.LinkedHashSet;
import java.util.List;
import java.util.Set;

/**
 * The three languages as plain grammars, read by a recogniser that knows nothing but the rules
 * (Earley's), so that the first TOKEN that can't go on is found in another way than the class does.
 */
final class Grammar {
    static final class Token {
        final String text;
        final int place;

        Token(String text, int place) {
            this.text = text;
            this.place = place;
        }

        boolean isNumber() {
            return !text.isEmpty() && Character.isDigit(text.charAt(0));
        }

        boolean isWord() {
            return !text.isEmpty() && text.charAt(0) >= 'a' && text.charAt(0) <= 'z';
        }

        int number() {
            String digits = text.replaceFirst("^0+(?=.)", "");
            return digits.length() > 6 ? 999999 : Integer.parseInt(digits);
        }
    }

    private final List<String[]> rules = new ArrayList<>();

    private Grammar(String... lines) {
        for (String line : lines) {
            String[] sides = line.split(" : ");
            for (String option : sides[1].split(" \\| ")) {
                rules.add((sides[0] + " " + option).trim().split(" +"));
            }
        }
    }

    static final Grammar METRE = new Grammar(
        "Text : Choice | Text or Choice", "Choice : Unit | Choice Unit", "Unit : Atom | Atom times 1-9",
        "Atom : long | short | any | cut | ( Text )");
    static final Grammar LAW = new Grammar(
        "Text : Clause | Text ; Clause", "Clause : Head | Head if Test",
        "Head : costs Sum | allows | bars",
        "Test : Both | Test or Both", "Both : Plain | Both and Plain",
        "Plain : not Plain | ( Test ) | Sum < Sum | Sum > Sum | Sum = Sum",
        "Sum : Term | Sum + Term | Sum - Term", "Term : Part | Term * Part | Term / Part | Term % Part",
        "Part : 0-1000 | [ Sum ] | place | weight | as | ends | meets | count | day | mood");
    static final Grammar ORDERS = new Grammar(
        "Text : Clause | Text ; Clause", "Clause : Head Tail",
        "Tail : NOTHING | times 1-20 | if Test | times 1-20 if Test",
        "Head : weigh Sum to Sum | end Sum | meet Sum | pass",
        "Test : Both | Test or Both", "Both : Plain | Both and Plain",
        "Plain : not Plain | ( Test ) | Sum < Sum | Sum > Sum | Sum = Sum",
        "Sum : Term | Sum + Term | Sum - Term", "Term : Part | Term * Part | Term / Part | Term % Part",
        "Part : 0-1000 | [ Sum ] | day | done | latest | count | weight 0-19 | scans 0-5");

    static List<Token> tokens(byte[] text) {
        List<Token> found = new ArrayList<>();
        String all = new String(text, java.nio.charset.StandardCharsets.ISO_8859_1);
        java.util.regex.Matcher m = java.util.regex.Pattern.compile("[a-z]+|[0-9]+|[^ ]",
            java.util.regex.Pattern.DOTALL).matcher(all);
        while (m.find()) {
            found.add(new Token(m.group(), m.start()));
        }
        return found;
    }

    /** The place of the FAULT, -1 without one (STEPS aside). */
    int fault(byte[] text) {
        List<Token> tokens = tokens(text);
        int stuck = firstStuck(tokens);
        int limit = firstBeyondLimits(tokens);
        int first = Math.min(stuck, limit);
        if (first > tokens.size()) {
            return -1;
        }
        return first == tokens.size() ? text.length : tokens.get(first).place;
    }

    private int firstBeyondLimits(List<Token> tokens) {
        int depth = 0;
        int parts = 0;
        int clauses = 1;
        for (int k = 0; k < tokens.size(); k++) {
            String t = tokens.get(k).text;
            String before = k == 0 ? "" : tokens.get(k - 1).text;
            if (t.equals("(") || t.equals("[")) {
                depth++;
                if (depth > 8) {
                    return k;
                }
            } else if (t.equals(")") || t.equals("]")) {
                depth--;
            }
            if (this != METRE) {
                if (before.equals(";")) {
                    clauses++;
                    if (clauses > 12) {
                        return k;
                    }
                }
                boolean aside = before.equals("times")
                    || this == ORDERS && (before.equals("weight") || before.equals("scans"));
                boolean word = (this == LAW ? " place weight as ends meets count day mood "
                    : " day done latest count weight scans ").contains(" " + t + " ") && tokens.get(k).isWord();
                if (word || tokens.get(k).isNumber() && !aside) {
                    parts++;
                    if (parts > 50) {
                        return k;
                    }
                }
            }
        }
        return Integer.MAX_VALUE;
    }

    private static boolean matches(String symbol, Token token) {
        if (Character.isDigit(symbol.charAt(0))) {
            String[] bounds = symbol.split("-");
            return token.isNumber() && token.number() >= Integer.parseInt(bounds[0])
                && token.number() <= Integer.parseInt(bounds[1]);
        }
        return symbol.equals(token.text);
    }

    private static boolean isRuleName(String symbol) {
        return Character.isUpperCase(symbol.charAt(0));
    }

    /** The first TOKEN's number that can't go on, tokens.size() for the end, MAX_VALUE if none. */
    private int firstStuck(List<Token> tokens) {
        List<Set<List<Integer>>> sets = new ArrayList<>();
        Set<List<Integer>> first = new LinkedHashSet<>();
        for (int r = 0; r < rules.size(); r++) {
            if (rules.get(r)[0].equals("Text")) {
                first.add(List.of(r, 1, 0));
            }
        }
        sets.add(first);
        for (int k = 0; ; k++) {
            complete(sets, k);
            if (k == tokens.size()) {
                for (List<Integer> item : sets.get(k)) {
                    String[] rule = rules.get(item.get(0));
                    if (rule[0].equals("Text") && item.get(1) == rule.length && item.get(2) == 0) {
                        return Integer.MAX_VALUE;
                    }
                }
                return k;
            }
            Set<List<Integer>> next = new LinkedHashSet<>();
            for (List<Integer> item : sets.get(k)) {
                String[] rule = rules.get(item.get(0));
                if (item.get(1) < rule.length && !isRuleName(rule[item.get(1)])
                        && matches(rule[item.get(1)], tokens.get(k))) {
                    next.add(List.of(item.get(0), item.get(1) + 1, item.get(2)));
                }
            }
            if (next.isEmpty()) {
                return k;
            }
            sets.add(next);
        }
    }

    private void complete(List<Set<List<Integer>>> sets, int k) {
        List<List<Integer>> todo = new ArrayList<>(sets.get(k));
        for (int t = 0; t < todo.size(); t++) {
            List<Integer> item = todo.get(t);
            String[] rule = rules.get(item.get(0));
            List<List<Integer>> more = new ArrayList<>();
            if (item.get(1) < rule.length && rule[item.get(1)].equals("NOTHING")) {
                more.add(List.of(item.get(0), item.get(1) + 1, item.get(2)));
            } else if (item.get(1) < rule.length && isRuleName(rule[item.get(1)])) {
                for (int r = 0; r < rules.size(); r++) {
                    if (rules.get(r)[0].equals(rule[item.get(1)])) {
                        more.add(List.of(r, 1, k));
                    }
                }
                // what is already complete here from here (an empty Tail) is passed over at once
                for (List<Integer> done : new ArrayList<>(todo)) {
                    String[] doneRule = rules.get(done.get(0));
                    if (done.get(1) == doneRule.length && done.get(2) == k && doneRule[0].equals(rule[item.get(1)])) {
                        more.add(List.of(item.get(0), item.get(1) + 1, item.get(2)));
                    }
                }
            } else if (item.get(1) == rule.length) {
                for (List<Integer> waiting : new ArrayList<>(item.get(2) == k ? todo : sets.get(item.get(2)))) {
                    String[] other = rules.get(waiting.get(0));
                    if (waiting.get(1) < other.length && other[waiting.get(1)].equals(rule[0])) {
                        more.add(List.of(waiting.get(0), waiting.get(1) + 1, waiting.get(2)));
                    }
                }
            }
            for (List<Integer> one : more) {
                if (sets.get(k).add(one)) {
                    todo.add(one);
                }
            }
        }
    }
}
