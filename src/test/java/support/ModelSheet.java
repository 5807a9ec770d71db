import java.util.ArrayList;
import java.util.HashSet;
import java.util.List;
import java.util.Set;

/** A sheet as a tree, built of tokens that the grammar has already found right, and its faults 2 to 6. */
final class ModelSheet {
    /** An expression: a number, a word, a reference (year 0: none named), or an operation with its parts. */
    record Expr(String kind, long number, int year, String name, List<Expr> parts) { }

    record Const(String name, Expr value) { }

    record Step(String kind, String name, int number, Expr value, List<Step> steps, List<Step> otherwise) { }

    int under = 0;
    Expr rule = null;
    int stepCount = 0;
    final List<Const> consts = new ArrayList<>();
    final List<Step> tables = new ArrayList<>();
    final List<Step> steps = new ArrayList<>();
    final Set<Integer> leaning = new HashSet<>();
    /** Each as place * 10 + fault, so that the least is the one to tell. */
    final List<Integer> faults = new ArrayList<>();

    private final List<ModelTokens.Token> tokens;
    private final int ownYear;
    private final Set<String> names = new HashSet<>();
    private int next = 0;
    private String context = "";

    ModelSheet(List<ModelTokens.Token> tokens, int ownYear) {
        this.tokens = tokens;
        this.ownYear = ownYear;
        if (is("under")) {
            take();
            under = year(take());
            take();
        }
        while (!is("end")) {
            part();
        }
    }

    private boolean is(String kind) {
        return tokens.get(next).kind().equals(kind);
    }

    private ModelTokens.Token take() {
        return tokens.get(next++);
    }

    private void tell(int fault, ModelTokens.Token token) {
        faults.add(token.place() * 10 + fault);
    }

    private int year(ModelTokens.Token token) {
        int year = Integer.parseInt(token.text());
        if (year < 1700 || year > 1729 || year == ownYear) {
            tell(3, token);
        }
        leaning.add(year);
        return year;
    }

    private String newName() {
        ModelTokens.Token token = take();
        if (!names.add(token.text())) {
            tell(2, token);
        }
        return token.text();
    }

    private int number(int low, int high) {
        ModelTokens.Token token = take();
        int number = Integer.parseInt(token.text());
        if (number < low || number > high) {
            tell(4, token);
        }
        return number;
    }

    private void part() {
        if (is("const")) {
            ModelTokens.Token word = take();
            String name = newName();
            take();
            consts.add(new Const(name, expr()));
            take();
            if (consts.size() > 8) {
                tell(5, word);
            }
        } else if (is("rule")) {
            ModelTokens.Token word = take();
            if (rule != null) {
                tell(2, word);
            }
            rule = inContext("rule");
            take();
        } else {
            steps.add(step());
        }
    }

    private Expr inContext(String name) {
        context = name;
        Expr value = expr();
        context = "";
        return value;
    }

    private Step step() {
        ModelTokens.Token word = take();
        if (++stepCount > 40) {
            tell(5, word);
        }
        if (word.kind().equals("check")) {
            Expr value = expr();
            take();
            int number = number(1, 800);
            take();
            return new Step("check", "", number, value, null, null);
        }
        if (word.kind().equals("try")) {
            List<Step> tried = block();
            take();
            return new Step("try", "", 0, null, tried, block());
        }
        String name = newName();
        int size = number(1, 12);
        take();
        Expr value = inContext("table");
        take();
        Step table = new Step("table", name, size, value, null, null);
        tables.add(table);
        if (tables.size() > 6) {
            tell(5, word);
        }
        return table;
    }

    private List<Step> block() {
        List<Step> block = new ArrayList<>();
        take();
        while (!is("}")) {
            block.add(step());
        }
        take();
        return block;
    }

    // K is a part of what S can say, so one way of reading serves both.
    private Expr expr() {
        Expr left = binary(0);
        if (!is("?")) {
            return left;
        }
        take();
        Expr first = expr();
        take();
        return new Expr("?", 0, 0, "", List.of(left, first, expr()));
    }

    private static final List<List<String>> LEVELS = List.of(List.of("=", "<", ">"), List.of("+", "-"), List.of("*", "/", "%"));

    private Expr binary(int level) {
        if (level == LEVELS.size()) {
            return unary();
        }
        Expr left = binary(level + 1);
        while (LEVELS.get(level).contains(tokens.get(next).kind())) {
            String op = take().kind();
            left = new Expr(op, 0, 0, "", List.of(left, binary(level + 1)));
        }
        return left;
    }

    private Expr unary() {
        if (!is("-")) {
            return atom();
        }
        take();
        return new Expr("neg", 0, 0, "", List.of(atom()));
    }

    private Expr atom() {
        ModelTokens.Token token = take();
        switch (token.kind()) {
            case "number":
                if (!is(".")) {
                    return new Expr("number", Long.parseLong(token.text()), 0, "", List.of());
                }
                take();
                int year = year(token);
                return reference(year, take().text());
            case "name":
                return reference(0, token.text());
            case "(":
                Expr inner = expr();
                take();
                return inner;
            default:
                if (!context.equals(token.kind().equals("at") ? "table" : "rule")) {
                    tell(6, token);
                }
                return new Expr(token.kind(), 0, 0, "", List.of());
        }
    }

    private Expr reference(int year, String name) {
        if (!is("[")) {
            return new Expr("const", 0, year, name, List.of());
        }
        take();
        Expr index = expr();
        take();
        return new Expr("entry", 0, year, name, List.of(index));
    }
}
