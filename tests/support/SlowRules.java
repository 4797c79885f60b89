import java.util.ArrayList;
import java.util.List;
import java.util.Map;
import java.util.function.Predicate;

/** Reads a text of rules for SlowBureau: by descent over the signs, a wrong one thrown out of all of it. */
final class SlowRules {
    private static final List<String> TAGS = List.of("grave", "child", "cleared", "guilty");
    private static final List<String> FACTS = List.of("pairs", "against", "points", "class", "age");

    private static final class Wrong extends RuntimeException {
        private static final long serialVersionUID = 1;
    }

    private final String text;
    private int at;
    int fault = SlowBureau.NONE;

    SlowRules(String text) {
        this.text = text;
    }

    List<SlowBureau.Rule> read() {
        List<SlowBureau.Rule> rules = new ArrayList<>();
        try {
            if (peek().isEmpty()) {
                return rules;
            }
            rules.add(rule());
            while (!peek().isEmpty()) {
                want(";");
                peek();
                if (rules.size() == 12) {
                    throw new Wrong();
                }
                rules.add(rule());
            }
        } catch (Wrong e) {
            fault = at;
        }
        return rules;
    }

    /** The word, number or sign that comes next, blanks ahead of it passed; empty at the end. */
    private String peek() {
        while (at < text.length() && text.charAt(at) == ' ') {
            at++;
        }
        String rest = text.substring(at);
        for (String kind : List.of("[a-z]+", "[0-9]+")) {
            java.util.regex.Matcher m = java.util.regex.Pattern.compile(kind).matcher(rest);
            if (m.lookingAt()) {
                return m.group();
            }
        }
        return rest.isEmpty() ? "" : rest.substring(0, 1);
    }

    private boolean take(String what) {
        if (!peek().equals(what)) {
            return false;
        }
        at += what.length();
        return true;
    }

    private void want(String what) {
        if (!take(what)) {
            throw new Wrong();
        }
    }

    private int number(int least, int most) {
        String digits = peek();
        if (!digits.matches("[0-9]{1,4}") || Integer.parseInt(digits) < least || Integer.parseInt(digits) > most) {
            throw new Wrong();
        }
        take(digits);
        return Integer.parseInt(digits);
    }

    private SlowBureau.Rule rule() {
        String kind = peek();
        if (take("need")) {
            return new SlowBureau.Rule(kind, number(1, 6), f -> true);
        }
        if (take("fingers")) {
            return new SlowBureau.Rule(kind, number(1, 10), f -> true);
        }
        if (take("keep")) {
            int number = number(0, 9999);
            return new SlowBureau.Rule(kind, number, take("if") ? any(0) : f -> true);
        }
        if (take("same") || take("doubt") || take("strike")) {
            want("if");
            return new SlowBureau.Rule(kind, 0, any(0));
        }
        throw new Wrong();
    }

    private Predicate<Map<String, Long>> any(int deep) {
        Predicate<Map<String, Long>> its = all(deep);
        while (take("or")) {
            its = its.or(all(deep));
        }
        return its;
    }

    private Predicate<Map<String, Long>> all(int deep) {
        Predicate<Map<String, Long>> its = atom(deep);
        while (take("and")) {
            its = its.and(atom(deep));
        }
        return its;
    }

    private Predicate<Map<String, Long>> atom(int deep) {
        String word = peek();
        if (deep == 6 && (word.equals("not") || word.equals("("))) {
            throw new Wrong();
        }
        if (take("not")) {
            return atom(deep + 1).negate();
        }
        if (take("(")) {
            Predicate<Map<String, Long>> its = any(deep + 1);
            want(")");
            return its;
        }
        if (TAGS.contains(word) && take(word)) {
            return f -> f.getOrDefault(word, 0L) == 1;
        }
        if (!FACTS.contains(word) || !take(word)) {
            throw new Wrong();
        }
        if (take("<")) {
            int number = number(0, 9999);
            return f -> f.get(word) < number;
        }
        want(">");
        int number = number(0, 9999);
        return f -> f.get(word) > number;
    }
}
