import java.nio.charset.StandardCharsets;
import java.util.ArrayList;
import java.util.List;
import java.util.Random;

/** Random runs of calls (the same ones each time) on the class and on the slow model beside each other. */
public final class ModelTest {
    private static int wrong = 0;
    private static int left = 0;
    private static int compared = 0;

    private final Random random;
    private final int longest;
    private final ScansionDesk desk = new ScansionDesk();
    private final Model model = new Model();
    private final List<String> log = new ArrayList<>();

    private ModelTest(long seed, int longest) {
        this.random = new Random(seed);
        this.longest = longest;
    }

    interface Answer {
        long get();
    }

    private void both(String call, Answer ours, Answer theirs) {
        long want;
        try {
            want = theirs.get();
        } catch (Model.TooMany e) {
            left++;
            return;
        }
        long got = ours.get();
        compared++;
        log.add(call + " = " + got);
        if (got != want) {
            wrong++;
            if (wrong == 1) {
                System.out.println(String.join("\n", log));
                System.out.println("  due was " + want);
            }
        }
    }

    private int pick(int n) {
        return random.nextInt(n);
    }

    private String one(String... options) {
        return options[pick(options.length)];
    }

    // ---- texts

    private String metreText(int depth) {
        StringBuilder text = new StringBuilder();
        int choices = pick(4) == 0 ? 2 : pick(12) == 0 ? 3 : 1;
        for (int c = 0; c < choices; c++) {
            text.append(c > 0 ? " or " : "");
            int units = 1 + pick(depth > 1 ? 2 : 4);
            for (int u = 0; u < units; u++) {
                String unit = depth < 3 && pick(4) == 0 ? "(" + metreText(depth + 1) + ")"
                    : one("long", "short", "any", "any", "cut", "long", "short");
                text.append(u > 0 ? " " : "").append(unit);
                if (pick(4) == 0) {
                    text.append(" times ").append(1 + pick(pick(6) == 0 ? 9 : 3));
                }
            }
        }
        return text.toString();
    }

    /** A metre that the line is likely to be taken by. */
    private String likelyMetre(int from, int to, int depth) {
        if (to - from == 0) {
            return "cut";
        }
        if (to - from == 1) {
            int[] s = model.now.line.get(from);
            String unit = one("any", "any", s[0] == 1 ? "long" : s[0] == 0 ? "short" : "any", "(long or short)",
                "(short short or any or long)", "(" + metreText(2) + " or any)");
            return unit + (s[1] == 1 && pick(3) == 0 ? " cut" : "") + (s[1] == 1 && pick(12) == 0 ? " cut times 2" : "");
        }
        if (pick(6) == 0) {
            return "any times " + Math.min(9, to - from) + (to - from > 9 ? " " + likelyMetre(from + 9, to, depth) : "");
        }
        int middle = from + 1 + pick(to - from - 1);
        boolean elides = model.now.line.get(middle)[2] == 1 && middle + 1 < to && pick(3) == 0;
        String text = likelyMetre(from, middle, depth) + " " + likelyMetre(elides ? middle + 1 : middle, to, depth);
        if (depth < 4 && pick(8) == 0) {
            return "(" + text + " or " + likelyMetre(from, to, depth + 1) + ")";
        }
        return text;
    }

    private void addMetre(String text) {
        feed(text);
        both("metre()", desk::metre, model::metre);
        both("fault()", desk::fault, () -> model.fault);
    }

    /** Brackets, PARTS, CLAUSES, STEPS about as many as are allowed. */
    private String bigText(int kind) {
        StringBuilder text = new StringBuilder();
        int brackets = 6 + pick(4);
        if (kind == 0) {
            String inside = one("any", "long or short", "cut", "any times 9");
            for (int k = 0; k < brackets; k++) {
                inside = "(" + inside + ")" + (pick(3) == 0 ? "times " + (2 + pick(2)) : "") + (pick(4) == 0 ? "any" : "");
            }
            return inside + (pick(2) == 0 ? " or any times 9" : "");
        }
        String head = kind == 1 ? "costs " : "end ";
        String word = kind == 1 ? "as" : "day";
        if (pick(3) == 0) {
            int clauses = 11 + pick(3);
            for (int k = 0; k < clauses; k++) {
                text.append(k > 0 ? ";" : "").append(kind == 1 ? one("bars if 1<as", "allows", "costs 2") : one("pass", "end 0"));
            }
            return text + one("", "", ";", " ");
        }
        if (pick(2) == 0) {
            String inside = one("1", word);
            for (int k = 0; k < brackets; k++) {
                inside = "[" + inside + "]" + one("", "+1", "*" + word);
            }
            int round = pick(4);
            inside = inside + "<3";
            for (int k = 0; k < round; k++) {
                inside = "(" + inside + ")" + one("", " and 1=1", " or " + word + ">1");
            }
            return head + "0 if " + inside;
        }
        int parts = 48 + pick(5);
        text.append(head);
        for (int k = 0; k < parts; k++) {
            boolean splits = k > 0 && k < parts - 1 && pick(15) == 0 && text.indexOf(" if ") < 0;
            text.append(k == 0 ? "" : splits ? " if " + one("1", word) + "<" : one("+", "*", "-", "%"));
            text.append(kind == 1 ? one("1", "as", "0") : one("1", "day", "weight 3", "scans 1"));
        }
        return text.toString();
    }

    private String part(boolean orders, int depth) {
        if (depth < 3 && pick(6) == 0) {
            return "[" + sum(orders, depth + 1) + "]";
        }
        if (pick(2) == 0) {
            return String.valueOf(pick(8) == 0 ? pick(1001) : pick(5));
        }
        return orders ? one("day", "done", "latest", "count", "weight " + pick(20), "weight " + pick(5), "scans " + pick(6),
            "scans " + pick(2)) : one("place", "weight", "as", "as", "ends", "meets", "count", "day", "mood");
    }

    private String sum(boolean orders, int depth) {
        StringBuilder text = new StringBuilder(part(orders, depth));
        for (int k = pick(5); k >= 3; k--) {
            text.append(one("+", "-", "*", " / ", "%", " + ", "*")).append(part(orders, depth));
        }
        return text.toString();
    }

    private String test(boolean orders, int depth) {
        StringBuilder text = new StringBuilder();
        int plains = 1 + pick(3) / 2 + pick(3) / 2;
        for (int k = 0; k < plains; k++) {
            text.append(k > 0 ? one(" or ", " and ") : "");
            text.append(pick(5) == 0 ? "not " : "").append(pick(12) == 0 ? "not " : "");
            if (depth < 3 && pick(5) == 0) {
                text.append("(").append(test(orders, depth + 1)).append(")");
            } else {
                text.append(sum(orders, depth)).append(one("<", ">", "=", " = ")).append(sum(orders, depth));
            }
        }
        return text.toString();
    }

    private String lawText() {
        StringBuilder text = new StringBuilder();
        int clauses = 1 + pick(4);
        for (int k = 0; k < clauses; k++) {
            text.append(k > 0 ? "; " : "");
            String head = one("costs ", "costs ", "allows", "bars");
            text.append(head).append(head.equals("costs ") ? sum(false, 0) : "");
            if (pick(4) > 0 || head.equals("bars")) {
                text.append(" if ").append(test(false, 0));
            }
        }
        return text.toString();
    }

    private String orderText() {
        StringBuilder text = new StringBuilder();
        int clauses = 1 + pick(5);
        for (int k = 0; k < clauses; k++) {
            text.append(k > 0 ? ";" : "");
            String head = one("weigh ", "end ", "meet ", "pass");
            text.append(head);
            boolean simple = pick(3) > 0;
            if (!head.equals("pass")) {
                text.append(simple ? String.valueOf(pick(Math.max(1, longest))) : sum(true, 0));
            }
            if (head.equals("weigh ")) {
                text.append(" to ").append(simple ? String.valueOf(pick(3)) : sum(true, 0));
            }
            if (pick(4) == 0) {
                text.append(" times ").append(1 + pick(pick(3) == 0 ? 20 : 3));
            }
            if (pick(3) == 0) {
                text.append(" if ").append(test(true, 0));
            }
        }
        return text.toString();
    }

    private static final String[] BITS = {"long", "short", "any", "cut", "or", "times", "(", ")", "[", "]", "costs",
        "allows", "bars", "if", "and", "not", "place", "weight", "as", "ends", "meets", "count", "day", "mood",
        "weigh", "to", "end", "meet", "pass", "done", "latest", "scans", "+", "-", "*", "/", "%", "<", ">", "=", ";",
        "0", "1", "9", "10", "19", "20", "21", "1000", "1001", "00000000000005", "99999999999999999999", "x", "A", ".",
        "longs", "\t", "\u00e9", "\u0000", " ", "  ", "pa", "ss", "007"};

    private String spoiled(String text) {
        int at = pick(text.length() + 1);
        switch (pick(5)) {
            case 0:
                return text.substring(0, at);
            case 1:
                return text.substring(0, at) + " " + one(BITS) + " " + text.substring(at);
            case 2:
                return text.substring(0, at) + one(BITS) + text.substring(Math.min(text.length(), at + 1 + pick(4)));
            case 3:
                List<Grammar.Token> tokens = Grammar.tokens(text.getBytes(StandardCharsets.ISO_8859_1));
                if (tokens.isEmpty()) {
                    return text;
                }
                Grammar.Token gone = tokens.get(pick(tokens.size()));
                return text.substring(0, gone.place) + (pick(2) == 0 ? "" : one(BITS))
                    + text.substring(gone.place + gone.text.length());
            default:
                StringBuilder any = new StringBuilder();
                for (int k = pick(6); k >= 0; k--) {
                    any.append(one(BITS)).append(pick(2) == 0 ? " " : "");
                }
                return any.toString();
        }
    }

    private void feed(String text) {
        byte[] bytes = text.getBytes(StandardCharsets.ISO_8859_1);
        both("end(0)", () -> desk.end(0), () -> model.end(0));
        for (int from = 0; from < bytes.length && from < 400; from += 20) {
            byte[] twenty = new byte[20];
            System.arraycopy(bytes, from, twenty, 0, Math.min(20, bytes.length - from));
            java.nio.ByteBuffer b = java.nio.ByteBuffer.wrap(twenty);
            int[] n = {b.getInt(), b.getInt(), b.getInt(), b.getInt(), b.getInt()};
            both("feed", () -> desk.feed(n[0], n[1], n[2], n[3], n[4]), () -> model.feed(n));
        }
        int size = Math.min(400, bytes.length);
        both("end(" + size + ") \"" + text + "\"", () -> desk.end(size), () -> model.end(size));
    }

    // ---- calls

    private int syllableNumber() {
        return pick(10) == 0 ? pick(30) - 5 : pick(Math.max(1, longest));
    }

    private int metreNumber() {
        return pick(12) == 0 ? pick(9) - 2 : pick(3);
    }

    private void addSyllable() {
        if (model.now.line.size() >= longest && pick(20) > 0) {
            return;
        }
        // on long lines few ways, so that the model can go through all of them
        int w = longest > 8 ? pick(8) == 0 ? 2 : pick(2) : pick(12) == 0 ? pick(5) - 1 : pick(3);
        int e = pick(25) == 0 ? pick(4) - 1 : pick(2);
        int m = pick(25) == 0 ? pick(4) - 1 : longest > 8 ? pick(6) / 5 : pick(2);
        both("syllable(" + w + "," + e + "," + m + ")", () -> desk.syllable(w, e, m), () -> model.syllable(w, e, m));
    }

    private void readText() {
        int kind = pick(4);
        String text = kind == 0 ? pick(2) == 0 ? metreText(0) : likelyMetre(0, model.now.line.size(), 0)
            : kind == 1 ? lawText() : orderText();
        text = pick(12) == 0 ? bigText(Math.min(2, kind)) : text;
        feed(pick(5) == 0 ? spoiled(text) : text);
        if (kind == 0) {
            both("metre()", desk::metre, model::metre);
        } else if (kind == 1) {
            both("law()", desk::law, model::law);
            int law = pick(10) == 0 ? pick(9) - 2 : pick(model.now.laws.size() + 1) - 1;
            both("force(" + law + ")", () -> desk.force(law), () -> model.force(law));
        } else {
            both("orders()", desk::orders, model::orders);
            both("stopped()", desk::stopped, () -> model.stopped);
        }
        both("fault()", desk::fault, () -> model.fault);
    }

    private void change() {
        int s = syllableNumber();
        int w = pick(10) == 0 ? pick(6) - 2 : pick(3);
        switch (pick(8)) {
            case 0: case 1:
                both("weigh(" + s + "," + w + ")", () -> desk.weigh(s, w), () -> model.weigh(s, w));
                break;
            case 2: case 3:
                both("ends(" + s + ")", () -> desk.ends(s), () -> model.ends(s));
                break;
            case 4: case 5:
                both("meets(" + s + ")", () -> desk.meets(s), () -> model.meets(s));
                break;
            case 6:
                both("pass()", desk::pass, model::pass);
                break;
            default:
                both("undo()", desk::undo, model::undo);
                break;
        }
    }

    private void rarely() {
        int k = pick(3) == 0 ? pick(5) - 1 : pick(2);
        int v = pick(6) == 0 ? pick(14) - 2 : pick(10);
        int day = pick(6) == 0 ? 990 + pick(12) : pick(20);
        int s = syllableNumber();
        int way = pick(15) == 0 ? 3 - 4 * pick(2) : pick(3);
        int seed = pick(20) == 0 ? pick(2) == 0 ? -1 : 1000000 + pick(2) : pick(1000001);
        int n = pick(20) == 0 ? pick(2) * 61 : 1 + pick(pick(4) == 0 ? 60 : 6);
        switch (pick(9)) {
            case 0:
                both("image(" + k + ")", () -> desk.image(k), () -> model.image(k));
                break;
            case 1:
                both("back(" + k + ")", () -> desk.back(k), () -> model.back(k));
                break;
            case 2:
                both("terms(" + k + "," + v + ")", () -> desk.terms(k, v), () -> model.terms(k, v));
                break;
            case 3:
                both("terms(0," + day + ")", () -> desk.terms(0, day), () -> model.terms(0, day));
                break;
            case 4:
                both("heard(" + s + "," + way + ")", () -> desk.heard(s, way), () -> model.heard(s, way));
                break;
            case 5:
                if (pick(2) == 0) {
                    both("forget()", desk::forget, model::forget);
                }
                break;
            case 6:
                both("weeks(" + seed + "," + n + ")", () -> desk.weeks(seed, n), () -> model.weeks(seed, n));
                break;
            case 7:
                feedRow();
                break;
            default:
                both("force(" + k + ")", () -> desk.force(k), () -> model.force(k));
                break;
        }
    }

    private void feedRow() {
        if (pick(3) > 0) {
            return;
        }
        StringBuilder row = new StringBuilder();
        int room = Math.max(0, longest - model.now.line.size());
        for (int k = pick(3 * Math.min(3, room) + 2); k > 0; k--) {
            row.append((char) (pick(15) == 0 ? pick(256) : pick(2)));
        }
        feed(row.toString());
        both("row()", desk::row, model::row);
        both("mutes()", desk::mutes, () -> model.mutes);
    }

    private void ask() {
        int m = metreNumber();
        int s = syllableNumber();
        int i = pick(3) == 0 ? -1 : s;
        int what = pick(12) - 1;
        int two = pick(10) == 0 ? pick(5) - 2 : pick(2);
        int law = pick(4) - 1;
        int k = pick(23) - 1;
        int n = pick(103) - 1;
        int c = pick(18) - 2;
        switch (pick(15)) {
            case 0:
                both("of(" + s + "," + what + ")", () -> desk.of(s, what), () -> model.of(s, what));
                break;
            case 1: case 2: case 3:
                both("best(" + m + "," + i + ")", () -> desk.best(m, i), () -> model.best(m, i));
                break;
            case 4:
                both("elisions(" + m + ")", () -> desk.elisions(m), () -> model.elisions(m));
                break;
            case 5:
                both("mend(" + m + ")", () -> desk.mend(m), () -> model.mend(m));
                break;
            case 6:
                both("reach(" + m + ")", () -> desk.reach(m), () -> model.reach(m));
                break;
            case 7:
                both("length(" + m + "," + two + ")", () -> desk.length(m, two), () -> model.length(m, two));
                both("steps(" + m + ")", () -> desk.steps(m), () -> model.steps(m));
                break;
            case 8:
                both("fits()", desk::fits, model::fits);
                break;
            case 9:
                both("canBe()", desk::canBe, model::canBe);
                break;
            case 10: case 11:
                both("listen(" + two + ")", () -> desk.listen(two), () -> model.listen(two));
                break;
            case 12:
                both("few(" + k + "," + n + ")", () -> desk.few(k, n), () -> model.few(k, n));
                break;
            case 13:
                both("compare(" + law + "," + m + ")", () -> desk.compare(law, m), () -> model.compare(law, m));
                break;
            default:
                both("drawn(" + s + "," + what + ")", () -> desk.drawn(s, what), () -> model.drawn(s, what));
                break;
        }
        both("status()", desk::status, () -> model.status);
        both("count(" + c + ")", () -> desk.count(c), () -> model.count(c));
    }

    private void run() {
        for (int k = 0; k < longest - pick(3); k++) {
            addSyllable();
        }
        for (int k = pick(4); k > 0; k--) {
            addMetre(likelyMetre(0, model.now.line.size(), 0));
        }
        for (int turn = 0; turn < 110; turn++) {
            int kind = pick(20);
            if (kind < 1) {
                addSyllable();
            } else if (kind < 4) {
                readText();
            } else if (kind < 7) {
                change();
            } else if (kind < 9) {
                rarely();
            } else {
                ask();
            }
        }
    }

    public static void main(String[] args) {
        int runs = args.length > 0 ? Integer.parseInt(args[0]) : 600;
        long first = args.length > 1 ? Long.parseLong(args[1]) : 1;
        int[] lengths = {0, 1, 2, 3, 4, 5, 6, 9, 14, 20};
        for (int k = 0; k < runs && wrong == 0; k++) {
            new ModelTest(first + k, lengths[k % lengths.length]).run();
        }
        System.out.println(compared + " answers compared, " + left + " left out, " + wrong + " not as due");
        if (wrong != 0 || compared < runs * 100) {
            System.exit(1);
        }
    }
}
