import java.util.ArrayList;
import java.util.HashMap;
import java.util.LinkedHashSet;
import java.util.List;
import java.util.Map;
import java.util.Set;

/**
 * The document's grammar as plain rules, with the depth of E and try written into the names of the rules, and
 * Earley's way of telling the first token with which no text goes on: nothing here is like the program's reader.
 */
final class ModelGrammar {
    private record Item(String head, List<String> body, int dot, int origin) { }

    private final Map<String, List<List<String>>> rules = new HashMap<>();

    ModelGrammar() {
        rule("SHEET", "UNDER PARTS end");
        rule("UNDER", "", "under number ;");
        rule("PARTS", "", "PARTS PART");
        rule("PART", "const name = K ;", "STEP0", "rule E1 ;");
        rule("K", "L", "K + L", "K - L");
        rule("L", "M", "L * M");
        rule("M", "N", "- N");
        rule("N", "number", "name", "number . name");
        for (int tries = 0; tries <= 3; tries++) {
            rule("STEPS" + tries, "", "STEPS" + tries + " STEP" + tries);
            rule("STEP" + tries, "table name number = E1 ;", "check E1 : number ;");
            if (tries < 3) {
                String steps = "STEPS" + (tries + 1);
                rule("STEP" + tries, "try { " + steps + " } else { " + steps + " }");
            }
        }
        for (int open = 1; open <= 12; open++) {
            String c = "C" + open;
            String s = "S" + open;
            String t = "T" + open;
            String u = "U" + open;
            String a = "A" + open;
            String inner = "E" + (open + 1);
            rule("E" + open, c, c + " ? " + inner + " : " + inner);
            rule(c, s, s + " = " + s, s + " < " + s, s + " > " + s);
            rule(s, t, s + " + " + t, s + " - " + t);
            rule(t, u, t + " * " + u, t + " / " + u, t + " % " + u);
            rule(u, a, "- " + a);
            rule(a, "number", "name", "name [ " + inner + " ]", "number . name", "number . name [ " + inner + " ]");
            rule(a, "at", "tons", "cargo", "lock", "day", "( " + inner + " )");
        }
        rule("E13");
    }

    private void rule(String head, String... bodies) {
        List<List<String>> known = rules.computeIfAbsent(head, h -> new ArrayList<>());
        for (String body : bodies) {
            known.add(body.isEmpty() ? List.of() : List.of(body.split(" ")));
        }
    }

    /** The index of the first token with which no text goes on, or -1. */
    int firstWrong(List<ModelTokens.Token> tokens) {
        List<List<Item>> sets = new ArrayList<>();
        Set<Item> now = new LinkedHashSet<>();
        for (List<String> body : rules.get("SHEET")) {
            now.add(new Item("SHEET", body, 0, 0));
        }
        for (int i = 0; i < tokens.size(); i++) {
            sets.add(closed(now, sets));
            Set<Item> next = new LinkedHashSet<>();
            for (Item item : sets.get(i)) {
                if (item.dot() < item.body().size() && item.body().get(item.dot()).equals(tokens.get(i).kind())) {
                    next.add(moved(item));
                }
            }
            if (next.isEmpty()) {
                return i;
            }
            now = next;
        }
        return -1;
    }

    private static Item moved(Item item) {
        return new Item(item.head(), item.body(), item.dot() + 1, item.origin());
    }

    private List<Item> closed(Set<Item> kernel, List<List<Item>> earlier) {
        int here = earlier.size();
        List<Item> items = new ArrayList<>(kernel);
        Set<Item> seen = new LinkedHashSet<>(kernel);
        Set<String> empties = new LinkedHashSet<>();
        for (int i = 0; i < items.size(); i++) {
            Item item = items.get(i);
            List<Item> found = new ArrayList<>();
            if (item.dot() == item.body().size()) {
                if (item.origin() == here) {
                    empties.add(item.head());
                }
                List<Item> waiting = item.origin() == here ? new ArrayList<>(items) : earlier.get(item.origin());
                for (Item other : waiting) {
                    if (other.dot() < other.body().size() && other.body().get(other.dot()).equals(item.head())) {
                        found.add(moved(other));
                    }
                }
            } else if (rules.containsKey(item.body().get(item.dot()))) {
                String head = item.body().get(item.dot());
                for (List<String> body : rules.get(head)) {
                    found.add(new Item(head, body, 0, here));
                }
                if (empties.contains(head)) {
                    found.add(moved(item));
                }
            }
            for (Item one : found) {
                if (seen.add(one)) {
                    items.add(one);
                }
            }
        }
        return items;
    }
}
