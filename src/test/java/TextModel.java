import java.util.ArrayList;
import java.util.HashMap;
import java.util.LinkedHashSet;
import java.util.List;
import java.util.Map;
import java.util.Set;

/**
 * A TEXT once more, by other ways than the class: a grammar of productions (one set for each number of open ones)
 * walked by Earley's way, which knows the first token that can't stand; and values by splitting at the loosest sign.
 */
final class TextModel {
    private static final Set<String> NAMES = Set.of("year", "won", "lost", "endless", "steps", "own");
    private static final Map<String, List<List<String>>> GRAMMAR = grammar();

    int fault = -1;
    private final List<String> tokens = new ArrayList<>();
    private final List<Integer> places = new ArrayList<>();

    TextModel(String text) {
        split(text);
        fault = firstFault(text.length());
    }

    private void split(String text) {
        java.util.regex.Matcher m = java.util.regex.Pattern.compile("[a-z]+|[0-9]+|(?s:.)").matcher(text);
        while (m.find()) {
            if (m.group().equals(" ") || m.group().equals("\n")) continue;
            tokens.add(m.group());
            places.add(m.start());
        }
    }

    private static void rule(Map<String, List<List<String>>> grammar, String left, String right) {
        List<String> parts = new ArrayList<>();
        for (String part : right.split(" ")) if (!part.isEmpty()) parts.add(part);
        grammar.computeIfAbsent(left, l -> new ArrayList<>()).add(parts);
    }

    private static Map<String, List<List<String>>> grammar() {
        Map<String, List<List<String>>> g = new HashMap<>();
        rule(g, "TEXT", "take E0 ; keep E0 ;");
        for (int k = 0; k <= 5; k++) {
            rule(g, "E" + k, "A" + k);
            rule(g, "E" + k, "E" + k + " or A" + k);
            rule(g, "A" + k, "N" + k);
            rule(g, "A" + k, "A" + k + " and N" + k);
            if (k < 5) rule(g, "N" + k, "not N" + (k + 1));
            rule(g, "N" + k, "S" + k);
            rule(g, "N" + k, "S" + k + " < S" + k);
            rule(g, "N" + k, "S" + k + " = S" + k);
            rule(g, "S" + k, "T" + k);
            rule(g, "S" + k, "S" + k + " + T" + k);
            rule(g, "S" + k, "S" + k + " - T" + k);
            rule(g, "T" + k, "O" + k);
            rule(g, "T" + k, "T" + k + " * O" + k);
            rule(g, "O" + k, "#number");
            rule(g, "O" + k, "#name");
            if (k < 5) rule(g, "O" + k, "- O" + (k + 1));
            if (k < 5) rule(g, "O" + k, "( E" + (k + 1) + " )");
        }
        return g;
    }

    private static String sort(String token) {
        if (token.matches("[0-9]{1,4}")) return "#number";
        return NAMES.contains(token) ? "#name" : token;
    }

    /** An item is a production, how much of it stands, and at which token it began. */
    private record Item(String left, List<String> right, int stands, int began) {
        String next() {
            return stands < right.size() ? right.get(stands) : "";
        }

        Item on() {
            return new Item(left, right, stands + 1, began);
        }
    }

    private int firstFault(int size) {
        List<Set<Item>> sets = new ArrayList<>();
        sets.add(new LinkedHashSet<>());
        for (List<String> right : GRAMMAR.get("TEXT")) sets.get(0).add(new Item("TEXT", right, 0, 0));
        for (int i = 0; i <= tokens.size(); i++) {
            close(sets, i);
            Set<Item> then = new LinkedHashSet<>();
            if (i == tokens.size()) break;
            for (Item item : sets.get(i)) if (item.next().equals(sort(tokens.get(i)))) then.add(item.on());
            if (then.isEmpty()) return places.get(i);
            sets.add(then);
        }
        for (Item item : sets.get(tokens.size())) if (item.left.equals("TEXT") && item.next().isEmpty()) return -1;
        return size;
    }

    private static void close(List<Set<Item>> sets, int at) {
        List<Item> work = new ArrayList<>(sets.get(at));
        for (int w = 0; w < work.size(); w++) {
            Item item = work.get(w);
            List<Item> more = new ArrayList<>();
            if (item.next().isEmpty()) {
                for (Item up : new ArrayList<>(sets.get(item.began))) if (up.next().equals(item.left)) more.add(up.on());
            } else if (GRAMMAR.containsKey(item.next())) {
                for (List<String> right : GRAMMAR.get(item.next())) more.add(new Item(item.next(), right, 0, at));
            }
            for (Item m : more) if (sets.get(at).add(m)) work.add(m);
        }
    }

    int value(int part, Map<String, Integer> names) {
        int end = tokens.indexOf(";");
        List<String> e = part == 0 ? tokens.subList(1, end) : tokens.subList(end + 2, tokens.size() - 1);
        return value(e, names);
    }

    private static int value(List<String> e, Map<String, Integer> names) {
        for (String sign : new String[] {"or", "and"}) {
            int at = last(e, sign);
            if (at < 0) continue;
            boolean left = value(e.subList(0, at), names) != 0;
            boolean right = value(e.subList(at + 1, e.size()), names) != 0;
            return (sign.equals("or") ? left || right : left && right) ? 1 : 0;
        }
        if (e.get(0).equals("not")) return value(e.subList(1, e.size()), names) == 0 ? 1 : 0;
        int at = Math.max(last(e, "<"), last(e, "="));
        if (at < 0) at = Math.max(last(e, "+"), last(e, "-"));
        if (at < 0) at = last(e, "*");
        if (at >= 0) {
            int left = value(e.subList(0, at), names);
            int right = value(e.subList(at + 1, e.size()), names);
            switch (e.get(at)) {
                case "<": return left < right ? 1 : 0;
                case "=": return left == right ? 1 : 0;
                case "+": return left + right;
                case "-": return left - right;
                default: return left * right;
            }
        }
        if (e.get(0).equals("-")) return -value(e.subList(1, e.size()), names);
        if (e.get(0).equals("(")) return value(e.subList(1, e.size() - 1), names);
        return names.containsKey(e.get(0)) ? names.get(e.get(0)) : Integer.parseInt(e.get(0));
    }

    /** The last place of a sign between two values that no parenthesis holds. */
    private static int last(List<String> e, String sign) {
        int open = 0;
        for (int i = e.size() - 1; i > 0; i--) {
            if (e.get(i).equals(")")) open++;
            if (e.get(i).equals("(")) open--;
            String before = e.get(i - 1);
            boolean behindValue = before.equals(")") || before.matches("[0-9]+") || NAMES.contains(before);
            if (open == 0 && e.get(i).equals(sign) && behindValue) return i;
        }
        return -1;
    }

}
