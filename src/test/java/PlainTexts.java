import java.util.HashMap;
import java.util.HashSet;
import java.util.Map;
import java.util.Set;
import java.util.TreeSet;
import java.util.regex.Matcher;
import java.util.regex.Pattern;

/**
 * Faults and worths once more, in another way than the program's: a law is read by all its rules at
 * once, and the fault is the farthest byte that any of them could not go beyond.
 */
final class PlainTexts {
    private PlainTexts() {
    }

    /** The numbers of a clause without blanks, by their letters, with those that go without saying. */
    static Map<Character, Integer> items(String clause, String usual) {
        Map<Character, Integer> items = new HashMap<>();
        for (String text : new String[] {usual, clause.substring(1)}) {
            Matcher item = Pattern.compile("([a-z])([0-9]+)").matcher(text);
            while (item.find()) {
                items.put(item.group(1).charAt(0), Integer.parseInt(item.group(2)));
            }
        }
        return items;
    }

    // ---- mills ----

    private static final Map<Character, Map<Character, int[]>> BOUNDS = Map.of(
        's', Map.of('p', new int[] {1, 99}, 'l', new int[] {1, 9}, 'h', new int[] {1, 20}, 'y', new int[] {1, 9}),
        'l', Map.of('a', new int[] {0, 60}, 's', new int[] {0, 60}, 'k', new int[] {0, 3}, 'f', new int[] {0, 8},
            'o', new int[] {10, 60}),
        'w', Map.of('a', new int[] {0, 5}, 'b', new int[] {0, 5}, 'h', new int[] {1, 9}));

    static int millFault(String text) {
        Map<Character, Integer> clauses = new HashMap<>(Map.of('s', 0, 'l', 0, 'w', 0));
        Map<Character, Integer> most = Map.of('s', 1, 'l', 8, 'w', 9);
        char clause = 0;
        Set<Character> had = new HashSet<>();
        String state = "clause";
        for (int i = 0; i < text.length(); i++) {
            char sign = text.charAt(i);
            if (sign == ' ') {
                continue;
            }
            if (state.equals("clause")) {
                if (!most.containsKey(sign) || clauses.merge(sign, 1, Integer::sum) > most.get(sign)) {
                    return i;
                }
                clause = sign;
                had.clear();
                state = "item";
            } else if (state.equals("item")) {
                if (sign == ';') {
                    state = "clause";
                } else if (BOUNDS.get(clause).containsKey(sign) && had.add(sign)) {
                    state = "" + sign;
                } else {
                    return i;
                }
            } else {
                int until = i;
                while (until < text.length() && Character.toString(text.charAt(until)).matches("[0-9]")) {
                    until++;
                }
                int[] bounds = BOUNDS.get(clause).get(state.charAt(0));
                if (until == i || until - i > 2) {
                    return until == i ? i : i + 2;
                }
                int value = Integer.parseInt(text.substring(i, until));
                i = until - 1;
                if (value < bounds[0] || value > bounds[1]) {
                    return i;
                }
                state = "item";
            }
        }
        return state.equals("item") && isWhole(text.replace(" ", "")) ? -1 : text.length();
    }

    private static boolean isWhole(String text) {
        String[] clauses = text.split(";");
        int lads = 0;
        for (String clause : clauses) {
            lads += clause.charAt(0) == 'l' ? 1 : 0;
        }
        int lad = 0;
        for (String clause : clauses) {
            if (clause.charAt(0) == 'l') {
                Map<Character, Integer> items = items(clause, "a10s5k0f8o14");
                boolean friend = items.get('f') == 8 || items.get('f') < lads && items.get('f') != lad;
                if (!friend || items.get('s') > items.get('a')) {
                    return false;
                }
                lad++;
            }
            if (clause.charAt(0) == 'w' && items(clause, "a0b1h2").get('a').equals(items(clause, "a0b1h2").get('b'))) {
                return false;
            }
        }
        return lads >= 2;
    }

    // ---- laws ----

    static int lawFault(String text) {
        Reading reading = new Reading(text);
        return reading.law().contains(reading.skip(text.length())) ? -1 : reading.farthest;
    }

    /** Where each rule can end that begins at a byte; what could not go on is remembered. */
    private static final class Reading {
        private final String text;
        private final Map<String, Set<Integer>> known = new HashMap<>();
        private int farthest;

        Reading(String text) {
            this.text = text;
        }

        int skip(int from) {
            int i = from;
            while (i < text.length() && text.charAt(i) == ' ') {
                i++;
            }
            return i;
        }

        private Set<Integer> sign(Set<Integer> from, String signs) {
            Set<Integer> ends = new TreeSet<>();
            for (int start : from) {
                int i = skip(start);
                if (i < text.length() && signs.indexOf(text.charAt(i)) >= 0) {
                    ends.add(skip(i + 1));
                } else {
                    farthest = Math.max(farthest, i);
                }
            }
            return ends;
        }

        private Set<Integer> each(Set<Integer> from, String rule, int depth) {
            Set<Integer> ends = new TreeSet<>();
            for (int start : from) {
                ends.addAll(rule(rule, start, depth));
            }
            return ends;
        }

        private Set<Integer> row(int from, String rule, String between, int depth) {
            Set<Integer> ends = new TreeSet<>(rule(rule, from, depth));
            Set<Integer> latest = ends;
            while (!latest.isEmpty()) {
                latest = each(sign(latest, between), rule, depth);
                ends.addAll(latest);
            }
            return ends;
        }

        Set<Integer> law() {
            Set<Integer> ends = row(0, "clause", ";", 0);
            for (int end : ends) {
                farthest = Math.max(farthest, end);
            }
            return ends;
        }

        private Set<Integer> rule(String rule, int from, int depth) {
            String key = rule + from + "/" + depth;
            if (!known.containsKey(key)) {
                known.put(key, read(rule, from, depth));
            }
            return known.get(key);
        }

        private Set<Integer> read(String rule, int from, int depth) {
            Set<Integer> start = Set.of(from);
            Set<Integer> ends = new TreeSet<>();
            switch (rule) {
                case "clause":
                    Set<Integer> head = sign(sign(start, "y"), ":");
                    ends.addAll(each(head, "sum", 0));
                    ends.addAll(each(sign(each(head, "condition", 0), "?"), "sum", 0));
                    return ends;
                case "condition":
                    return row(from, "truth", "|", depth);
                case "truth":
                    return row(from, "unit", "&", depth);
                case "unit":
                    ends.addAll(each(sign(rule("sum", from, depth), "=<>"), "sum", depth));
                    if (depth < 6) {
                        ends.addAll(each(sign(start, "!"), "unit", depth + 1));
                        ends.addAll(sign(each(sign(start, "("), "condition", depth + 1), ")"));
                    }
                    return ends;
                case "sum":
                    return row(from, "term", "+-", depth);
                case "term":
                    return row(from, "atom", "*/", depth);
                default:
                    ends.addAll(sign(start, "askoyn"));
                    ends.addAll(number(from));
                    if (depth < 6) {
                        ends.addAll(sign(each(sign(start, "["), "sum", depth + 1), "]"));
                    }
                    return ends;
            }
        }

        private Set<Integer> number(int from) {
            int first = skip(from);
            int i = first;
            while (i < text.length() && i < first + 4 && text.charAt(i) >= '0' && text.charAt(i) <= '9') {
                i++;
            }
            farthest = Math.max(farthest, i);
            return i == first ? Set.of() : Set.of(skip(i));
        }
    }

    /** The worth of a law without blanks and faults. */
    static long worth(String law, Map<Character, Integer> letters) {
        for (String clause : law.split(";")) {
            String[] parts = clause.substring(2).split("\\?");
            if (parts.length == 1 || condition(parts[0], letters)) {
                return sum(parts[parts.length - 1], letters);
            }
        }
        return 0;
    }

    /** The place of the last of these signs that stands in no bracket, -1 without. */
    private static int last(String text, String signs) {
        int depth = 0;
        for (int i = text.length() - 1; i >= 0; i--) {
            char sign = text.charAt(i);
            depth += sign == ')' || sign == ']' ? 1 : sign == '(' || sign == '[' ? -1 : 0;
            if (depth == 0 && signs.indexOf(sign) >= 0) {
                return i;
            }
        }
        return -1;
    }

    private static boolean condition(String text, Map<Character, Integer> letters) {
        int or = last(text, "|");
        if (or >= 0) {
            return condition(text.substring(0, or), letters) | condition(text.substring(or + 1), letters);
        }
        int and = last(text, "&");
        if (and >= 0) {
            return condition(text.substring(0, and), letters) & condition(text.substring(and + 1), letters);
        }
        if (text.startsWith("!")) {
            return !condition(text.substring(1), letters);
        }
        if (text.startsWith("(")) {
            return condition(text.substring(1, text.length() - 1), letters);
        }
        int relation = last(text, "=<>");
        long left = sum(text.substring(0, relation), letters);
        long right = sum(text.substring(relation + 1), letters);
        char sign = text.charAt(relation);
        return sign == '=' ? left == right : sign == '<' ? left < right : left > right;
    }

    private static long sum(String text, Map<Character, Integer> letters) {
        int sign = last(text, "+-");
        if (sign < 0) {
            sign = last(text, "*/");
        }
        if (sign >= 0) {
            long left = sum(text.substring(0, sign), letters);
            long right = sum(text.substring(sign + 1), letters);
            long all = switch (text.charAt(sign)) {
                case '+' -> left + right;
                case '-' -> left - right;
                case '*' -> left * right;
                default -> right == 0 ? 0 : left / right;
            };
            return Math.max(-1000000, Math.min(1000000, all));
        }
        if (text.startsWith("[")) {
            return sum(text.substring(1, text.length() - 1), letters);
        }
        return letters.containsKey(text.charAt(0)) ? letters.get(text.charAt(0)) : Long.parseLong(text);
    }
}
