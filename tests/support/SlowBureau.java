import java.math.BigInteger;
import java.util.ArrayList;
import java.util.Arrays;
import java.util.HashMap;
import java.util.HashSet;
import java.util.List;
import java.util.Map;
import java.util.NoSuchElementException;
import java.util.Set;
import java.util.TreeSet;
import java.util.function.Function;
import java.util.function.Predicate;

/**
 * The document once more, written for plainness alone and by other ways than the class goes: what is kept to
 * save time is kept under all that it comes from. RandomRuns holds the two against each other.
 */
final class SlowBureau {
    static final int NONE = -1;

    record Point(int x, int y, int kind, int heading) { }

    record Saying(int examiner, int mark, int card, int finger, int what, int day) { }

    record Rule(String kind, int number, Predicate<Map<String, Long>> holds) { }

    record Text(int from, List<Rule> rules) { }

    record Lay(int pairs, int against, int turn, int sx, int sy) { }

    static final class Hit {
        int mark, card, finger, verdict, pairs, day, truePairs;

        Hit copy() {
            Hit h = new Hit();
            h.mark = mark;
            h.card = card;
            h.finger = finger;
            h.verdict = verdict;
            h.pairs = pairs;
            h.day = day;
            h.truePairs = truePairs;
            return h;
        }
    }

    static final class Print {
        String field;
        List<Point> points = new ArrayList<>();
    }

    static final class Mark {
        int x0, y0, x1, y1, day;
        boolean grave;
        List<Point> points = new ArrayList<>();
    }

    static final class Card {
        int name, day, struck = NONE;
        int[] print = new int[10], second = new int[10];
        int[] told = {NONE, NONE, NONE};
        Set<String> compared = new HashSet<>();
    }

    static final class All {
        int today, slack = 1, desk = 10, comparisons;
        List<Print> prints = new ArrayList<>();
        List<Mark> marks = new ArrayList<>();
        List<Card> cards = new ArrayList<>();
        List<Text> texts = new ArrayList<>();
        List<Saying> sayings = new ArrayList<>();
        List<Hit> hits = new ArrayList<>();

        All copy() {
            All a = new All();
            a.today = today;
            a.slack = slack;
            a.desk = desk;
            a.comparisons = comparisons;
            for (Print p : prints) {
                Print q = new Print();
                q.field = p.field;
                q.points = new ArrayList<>(p.points);
                a.prints.add(q);
            }
            for (Mark m : marks) {
                Mark q = new Mark();
                q.x0 = m.x0;
                q.y0 = m.y0;
                q.x1 = m.x1;
                q.y1 = m.y1;
                q.day = m.day;
                q.grave = m.grave;
                q.points = new ArrayList<>(m.points);
                a.marks.add(q);
            }
            for (Card c : cards) {
                Card q = new Card();
                q.name = c.name;
                q.day = c.day;
                q.struck = c.struck;
                q.print = c.print.clone();
                q.second = c.second.clone();
                q.told = c.told.clone();
                q.compared = new HashSet<>(c.compared);
                a.cards.add(q);
            }
            a.texts = new ArrayList<>(texts);
            a.sayings = new ArrayList<>(sayings);
            for (Hit h : hits) {
                a.hits.add(h.copy());
            }
            return a;
        }
    }

    private All now = new All();
    private All image;
    private StringBuilder tape = new StringBuilder();
    private int fault = NONE;
    private final Map<String, Lay> lays = new HashMap<>();
    private final Map<String, Integer> classes = new HashMap<>();

    int feed(int a, int b, int c, int d, int e) {
        if (tape.length() > 380) {
            return NONE;
        }
        for (int n : new int[] {a, b, c, d, e}) {
            tape.append((char) (n >>> 24)).append((char) (n << 8 >>> 24)).append((char) (n << 16 >>> 24))
                    .append((char) (n << 24 >>> 24));
        }
        return tape.length();
    }

    boolean end(int n) {
        if (n < 0 || tape.length() < n) {
            return false;
        }
        tape.setLength(n);
        return true;
    }

    int fault() {
        return fault;
    }

    private String use() {
        String text = tape.toString();
        tape.setLength(0);
        return text;
    }

    // ---- prints

    int print() {
        String text = use();
        fault = fieldFault(text);
        if (fault != NONE) {
            throw new IllegalArgumentException();
        }
        if (now.prints.size() == 60) {
            throw new UnsupportedOperationException();
        }
        Print p = new Print();
        p.field = text.replace(" ", "").replace("/", "");
        now.prints.add(p);
        return now.prints.size() - 1;
    }

    private static int fieldFault(String text) {
        int signs = 0;
        for (int i = 0; i < text.length(); i++) {
            String sign = text.substring(i, i + 1);
            if (sign.equals(" ")) {
                continue;
            }
            if (signs >= 71 || (signs % 9 == 8 ? !sign.equals("/") : !".01234567".contains(sign))) {
                return i;
            }
            signs++;
        }
        return signs == 71 ? NONE : text.length();
    }

    private int cell(int print, int x, int y) {
        char sign = now.prints.get(print).field.charAt(8 * y + x);
        return sign == '.' ? NONE : sign - '0';
    }

    int field(int print, int cell) {
        need(print, now.prints.size());
        need(cell, 64);
        return cell(print, cell % 8, cell / 8);
    }

    int turn(int print, int corner) {
        need(print, now.prints.size());
        need(corner, 49);
        int x = corner % 7 + 1;
        int y = corner / 7 + 1;
        int[] around = {cell(print, x - 1, y - 1), cell(print, x, y - 1), cell(print, x, y), cell(print, x - 1, y),
            cell(print, x - 1, y - 1)};
        int sum = 0;
        for (int i = 0; i < 4; i++) {
            if (around[i] == NONE || around[i + 1] == NONE) {
                return NONE;
            }
            int more = around[i + 1] - around[i];
            while (more > 4) {
                more -= 8;
            }
            while (more < -3) {
                more += 8;
            }
            if (more == 4) {
                return NONE;
            }
            sum += more;
        }
        return sum;
    }

    private List<Integer> corners(int print, int turn) {
        List<Integer> found = new ArrayList<>();
        for (int i = 0; i < 49; i++) {
            if (turn(print, i) == turn) {
                found.add(i);
            }
        }
        return found;
    }

    int pattern(int print) {
        need(print, now.prints.size());
        List<Integer> cores = corners(print, 8);
        List<Integer> deltas = corners(print, -8);
        if (cores.isEmpty() && deltas.isEmpty()) {
            return 0;
        }
        if (cores.size() == 2 && deltas.size() == 2) {
            return 4;
        }
        if (cores.size() == 1 && deltas.size() == 1) {
            int further = Integer.compare(deltas.get(0) % 7, cores.get(0) % 7);
            return further == 0 ? 1 : further > 0 ? 2 : 3;
        }
        return 5;
    }

    int singular(int print, int n, boolean delta) {
        need(print, now.prints.size());
        List<Integer> found = corners(print, delta ? -8 : 8);
        return n >= 0 && n < found.size() ? found.get(n) : NONE;
    }

    int ridges(int print) {
        int pattern = pattern(print);
        if (pattern == 0 || pattern == 5) {
            return 0;
        }
        int x = singular(print, 0, false) % 7 + 1;
        int y = singular(print, 0, false) / 7 + 1;
        int toX = singular(print, 0, true) % 7 + 1;
        int toY = singular(print, 0, true) / 7 + 1;
        int sum = 0;
        while (x != toX) {
            // the line from corner x to the next has the cell x below it, the one to the corner ahead x - 1
            int below = cell(print, x < toX ? x : x - 1, y);
            sum += below == NONE ? 0 : "01233321".charAt(below) - '0';
            x += x < toX ? 1 : -1;
        }
        while (y != toY) {
            int right = cell(print, x, y < toY ? y : y - 1);
            sum += right == NONE ? 0 : "33210123".charAt(right) - '0';
            y += y < toY ? 1 : -1;
        }
        return sum;
    }

    private int classOf(int print) {
        return classes.computeIfAbsent(now.prints.get(print).field, field -> findClass(print));
    }

    private int findClass(int print) {
        switch (pattern(print)) {
            case 2:
                return ridges(print) <= 9 ? 2 : 3;
            case 3:
                return ridges(print) <= 9 ? 4 : 5;
            case 4:
                return 6;
            case 5:
                return 7;
            default:
                return pattern(print);
        }
    }

    private int addPoint(List<Point> to, int x, int y, int kind, int heading) {
        if (x < 0 || x > 63 || y < 0 || y > 63 || kind < 0 || kind > 2 || heading < 0 || heading > 15) {
            throw new IllegalArgumentException();
        }
        if (to.size() == 8) {
            return NONE;
        }
        to.add(new Point(x, y, kind, heading));
        return to.size() - 1;
    }

    int point(int print, int x, int y, int kind, int heading) {
        need(print, now.prints.size());
        return addPoint(now.prints.get(print).points, x, y, kind, heading);
    }

    // ---- marks

    int mark(int x0, int y0, int x1, int y1, boolean grave) {
        if (x0 < 0 || x1 < x0 || x1 > 63 || y0 < 0 || y1 < y0 || y1 > 63) {
            throw new IllegalArgumentException();
        }
        if (now.marks.size() == 20) {
            throw new UnsupportedOperationException();
        }
        Mark m = new Mark();
        m.x0 = x0;
        m.y0 = y0;
        m.x1 = x1;
        m.y1 = y1;
        m.grave = grave;
        m.day = now.today;
        now.marks.add(m);
        return now.marks.size() - 1;
    }

    int spot(int mark, int x, int y, int kind, int heading) {
        need(mark, now.marks.size());
        return addPoint(now.marks.get(mark).points, x, y, kind, heading);
    }

    void slack(int n) {
        if (n < 0 || n > 8) {
            throw new IllegalArgumentException();
        }
        now.slack = n;
    }

    private static Point quarter(Point p) {
        return new Point(63 - p.y, p.x, p.kind, (p.heading + 4) % 16);
    }

    private static boolean mayPair(Point a, Point b, int slack) {
        int apart = Math.floorMod(a.heading - b.heading, 16);
        return Math.max(Math.abs(a.x - b.x), Math.abs(a.y - b.y)) <= slack
                && (a.kind == b.kind || a.kind == 2 || b.kind == 2) && (apart < 2 || apart == 15);
    }

    private static int mostPairs(List<Point> upper, List<Point> lower, int slack, int i, int used, int[][] known) {
        if (i == upper.size()) {
            return 0;
        }
        if (known[i][used] >= 0) {
            return known[i][used];
        }
        int best = mostPairs(upper, lower, slack, i + 1, used, known);
        for (int j = 0; j < lower.size(); j++) {
            if ((used & 1 << j) == 0 && mayPair(upper.get(i), lower.get(j), slack)) {
                best = Math.max(best, 1 + mostPairs(upper, lower, slack, i + 1, used | 1 << j, known));
            }
        }
        known[i][used] = best;
        return best;
    }

    private Lay bestLay(List<Point> upper, int[] clear, List<Point> lower) {
        String key = upper + " " + Arrays.toString(clear) + " " + lower + " " + now.slack;
        Lay known = lays.get(key);
        if (known == null) {
            known = findLay(upper, clear, lower);
            lays.put(key, known);
        }
        return known;
    }

    private Lay findLay(List<Point> upper, int[] clear, List<Point> lower) {
        List<Lay> all = new ArrayList<>();
        List<Point> turned = upper;
        Point one = new Point(clear[0], clear[1], 0, 0);
        Point other = new Point(clear[2], clear[3], 0, 0);
        for (int turn = 0; turn < 4; turn++) {
            Set<Integer> shifts = new TreeSet<>();
            for (Point a : turned) {
                for (Point b : lower) {
                    shifts.add(1000 * (b.x - a.x + 100) + b.y - a.y + 100);
                }
            }
            for (int shift : shifts) {
                all.add(weigh(turned, one, other, lower, turn, shift / 1000 - 100, shift % 1000 - 100));
            }
            List<Point> next = new ArrayList<>();
            for (Point p : turned) {
                next.add(quarter(p));
            }
            turned = next;
            one = quarter(one);
            other = quarter(other);
        }
        // the lays come by turn, shift along x, shift along y: the first of the best ones is due
        Lay best = null;
        for (Lay l : all) {
            if (best == null || 100 * l.pairs - l.against > 100 * best.pairs - best.against) {
                best = l;
            }
        }
        return best == null ? new Lay(0, 0, 0, 0, 0) : best;
    }

    private Lay weigh(List<Point> turned, Point one, Point other, List<Point> lower, int turn, int sx, int sy) {
        List<Point> laid = new ArrayList<>();
        for (Point p : turned) {
            laid.add(new Point(p.x + sx, p.y + sy, p.kind, p.heading));
        }
        int[][] known = new int[9][256];
        for (int[] row : known) {
            Arrays.fill(row, -1);
        }
        int against = 0;
        for (Point p : laid) {
            boolean within = p.x >= 0 && p.x <= 63 && p.y >= 0 && p.y <= 63;
            if (within && lower.stream().noneMatch(q -> mayPair(p, q, now.slack))) {
                against++;
            }
        }
        for (Point q : lower) {
            boolean within = between(q.x, one.x + sx, other.x + sx) && between(q.y, one.y + sy, other.y + sy);
            if (within && laid.stream().noneMatch(p -> mayPair(p, q, now.slack))) {
                against++;
            }
        }
        return new Lay(mostPairs(laid, lower, now.slack, 0, 0, known), against, turn, sx, sy);
    }

    private static boolean between(int n, int a, int b) {
        return a <= n && n <= b || b <= n && n <= a;
    }

    private Lay layMark(int mark, int print) {
        Mark m = now.marks.get(mark);
        return bestLay(m.points, new int[] {m.x0, m.y0, m.x1, m.y1}, now.prints.get(print).points);
    }

    int lay(int mark, int print, int what) {
        need(mark, now.marks.size());
        need(print, now.prints.size());
        Lay l = layMark(mark, print);
        switch (what) {
            case 0:
                return l.pairs;
            case 1:
                return l.against;
            case 2:
                return l.turn;
            case 3:
                return l.sx;
            case 4:
                return l.sy;
            default:
                throw new NoSuchElementException();
        }
    }

    // ---- cards

    int card(int name) {
        if (name < 0 || name > 9999) {
            throw new IllegalArgumentException();
        }
        if (now.cards.size() == 16) {
            throw new UnsupportedOperationException();
        }
        Card c = new Card();
        c.name = name;
        c.day = now.today;
        Arrays.fill(c.print, NONE);
        Arrays.fill(c.second, NONE);
        now.cards.add(c);
        return now.cards.size() - 1;
    }

    boolean finger(int card, int finger, int print) {
        need(card, now.cards.size());
        need(finger, 10);
        if (print != NONE) {
            need(print, now.prints.size());
        }
        Card c = now.cards.get(card);
        if (c.print[finger] == print) {
            return false;
        }
        c.print[finger] = print;
        c.compared.removeIf(s -> s.endsWith(" " + finger));
        return true;
    }

    boolean doubt(int card, int finger, int itsClass) {
        need(card, now.cards.size());
        need(finger, 10);
        if (itsClass < NONE || itsClass > 7) {
            throw new IllegalArgumentException();
        }
        int others = 0;
        for (int f = 0; f < 10; f++) {
            if (f != finger && now.cards.get(card).second[f] != NONE) {
                others++;
            }
        }
        if (others == 4) {
            return false;
        }
        now.cards.get(card).second[finger] = itsClass;
        return true;
    }

    private String reading(int card, boolean[] second) {
        Card c = now.cards.get(card);
        StringBuilder digits = new StringBuilder("..........");
        for (int f = 0; f < 10; f++) {
            if (c.print[f] != NONE) {
                int its = second[f] && c.second[f] != NONE ? c.second[f] : classOf(c.print[f]);
                digits.setCharAt(f, (char) ('0' + its));
            }
        }
        StringBuilder whole = new StringBuilder(digits);
        for (int f = 0; f < 10; f++) {
            if (digits.charAt(f) == '.') {
                whole.setCharAt(f, digits.charAt(f < 5 ? f + 5 : f - 5));
            }
        }
        return whole.toString().replace('.', '7');
    }

    private Set<String> readings(int card) {
        Set<String> all = new HashSet<>();
        boolean[] second = new boolean[10];
        for (int bits = 0; bits < 1024; bits++) {
            boolean can = true;
            for (int f = 0; f < 10; f++) {
                second[f] = (bits >> f & 1) == 1;
                can &= !second[f] || now.cards.get(card).second[f] != NONE;
            }
            if (can) {
                all.add(reading(card, second));
            }
        }
        return all;
    }

    int kind(int card, int finger) {
        need(card, now.cards.size());
        need(finger, 10);
        return reading(card, new boolean[10]).charAt(finger) - '0';
    }

    int number(int card, boolean lower) {
        need(card, now.cards.size());
        String whole = reading(card, new boolean[10]);
        return Integer.parseInt(lower ? whole.substring(5) : whole.substring(0, 5), 8);
    }

    int drawers(int card) {
        need(card, now.cards.size());
        return readings(card).size();
    }

    int like(int card, int n) {
        need(card, now.cards.size());
        List<Integer> found = new ArrayList<>();
        for (int i = 0; i < now.cards.size(); i++) {
            Set<String> shared = readings(card);
            shared.retainAll(readings(i));
            if (i != card && now.cards.get(i).struck == NONE && !shared.isEmpty()) {
                found.add(i);
            }
        }
        return n >= 0 && n < found.size() ? found.get(n) : NONE;
    }

    // ---- rules

    int rules(int day) {
        String text = use();
        if (day < now.today || day > 2000) {
            throw new IllegalArgumentException();
        }
        SlowRules reader = new SlowRules(text);
        List<Rule> rules = reader.read();
        fault = reader.fault;
        if (fault != NONE) {
            throw new IllegalArgumentException();
        }
        if (now.texts.size() == 10) {
            throw new UnsupportedOperationException();
        }
        now.texts.add(new Text(day, rules));
        return rules.size();
    }

    private List<Rule> rulesOf(int day) {
        Text best = new Text(NONE, List.of());
        for (Text t : now.texts) {
            if (t.from <= day && t.from >= best.from) {
                best = t;
            }
        }
        return best.rules;
    }

    private Map<String, Long> facts(long pairs, long against, long points, long itsClass, long age) {
        Map<String, Long> f = new HashMap<>();
        f.put("pairs", pairs);
        f.put("against", against);
        f.put("points", points);
        f.put("class", itsClass);
        f.put("age", age);
        return f;
    }

    private Map<String, Long> factsOfMark(int mark, int print, int day) {
        Mark m = now.marks.get(mark);
        Lay l = layMark(mark, print);
        Map<String, Long> f = facts(l.pairs, l.against, m.points.size(), classOf(print), (long) day - m.day);
        f.put("grave", m.grave ? 1L : 0L);
        return f;
    }

    private Map<String, Long> factsOfCard(int card, int day) {
        Card c = now.cards.get(card);
        Map<String, Long> f = facts(0, 0, 0, 0, (long) day - c.day);
        String[] tags = {"child", "cleared", "guilty"};
        for (int i = 0; i < 3; i++) {
            f.put(tags[i], c.told[i] != NONE && c.told[i] <= day ? 1L : 0L);
        }
        return f;
    }

    private static int first(List<Rule> rules, String kind, Map<String, Long> facts) {
        for (int i = 0; i < rules.size(); i++) {
            if (rules.get(i).kind.equals(kind) && rules.get(i).holds.test(facts)) {
                return i;
            }
        }
        return NONE;
    }

    private static int last(List<Rule> rules, String kind, int without) {
        int n = without;
        for (Rule r : rules) {
            n = r.kind.equals(kind) ? r.number : n;
        }
        return n;
    }

    private static int verdict(List<Rule> rules, Map<String, Long> facts) {
        return first(rules, "same", facts) != NONE ? 2 : first(rules, "doubt", facts) != NONE ? 1 : 0;
    }

    int verdict(int mark, int print, int day) {
        need(mark, now.marks.size());
        need(print, now.prints.size());
        return verdict(rulesOf(day), factsOfMark(mark, print, day));
    }

    int why(int mark, int print, int day) {
        switch (verdict(mark, print, day)) {
            case 2:
                return first(rulesOf(day), "same", factsOfMark(mark, print, day));
            case 1:
                return first(rulesOf(day), "doubt", factsOfMark(mark, print, day));
            default:
                return NONE;
        }
    }

    // ---- examiners

    int say(int examiner, int mark, int card, int finger, int what) {
        need(examiner, 6);
        need(mark, now.marks.size());
        need(card, now.cards.size());
        need(finger, 10);
        if (what < 0 || what > 2) {
            throw new IllegalArgumentException();
        }
        if (now.sayings.size() == 200 || now.cards.get(card).print[finger] == NONE) {
            return NONE;
        }
        now.sayings.add(new Saying(examiner, mark, card, finger, what, now.today));
        return now.sayings.size();
    }

    int said(int examiner, int mark, int card, int finger, int day) {
        need(examiner, 6);
        need(mark, now.marks.size());
        need(card, now.cards.size());
        need(finger, 10);
        for (int i = now.sayings.size() - 1; i >= 0; i--) {
            Saying s = now.sayings.get(i);
            if (s.equals(new Saying(examiner, mark, card, finger, s.what, s.day)) && s.day <= day) {
                return s.what;
            }
        }
        return NONE;
    }

    boolean proved(int mark, int card, int finger, int day) {
        need(mark, now.marks.size());
        need(card, now.cards.size());
        need(finger, 10);
        int print = now.cards.get(card).print[finger];
        if (print == NONE) {
            return false;
        }
        int same = 0;
        int not = 0;
        for (int e = 0; e < 6; e++) {
            int what = said(e, mark, card, finger, day);
            same += what == 1 ? 1 : 0;
            not += what == 0 ? 1 : 0;
        }
        return same >= last(rulesOf(day), "need", 1) && not == 0 && verdict(mark, print, day) == 2;
    }

    // ---- persons

    int alike(int a, int b, int day) {
        need(a, now.cards.size());
        need(b, now.cards.size());
        Card one = now.cards.get(Math.min(a, b));
        Card other = now.cards.get(Math.max(a, b));
        int count = 0;
        for (int f = 0; f < 10; f++) {
            if (one.print[f] == NONE || other.print[f] == NONE || classOf(one.print[f]) != classOf(other.print[f])) {
                continue;
            }
            List<Point> upper = now.prints.get(one.print[f]).points;
            Lay l = bestLay(upper, new int[] {0, 0, 63, 63}, now.prints.get(other.print[f]).points);
            Map<String, Long> facts = facts(l.pairs, l.against, upper.size(), classOf(other.print[f]), 0);
            count += verdict(rulesOf(day), facts) == 2 ? 1 : 0;
        }
        return count;
    }

    private boolean isThere(int card, int day) {
        Card c = now.cards.get(card);
        return c.day <= day && (c.struck == NONE || c.struck > day);
    }

    private Set<Integer> personOf(int card, int day) {
        Set<Integer> members = new TreeSet<>();
        if (!isThere(card, day)) {
            return members;
        }
        List<Integer> open = new ArrayList<>(List.of(card));
        while (!open.isEmpty()) {
            int one = open.remove(0);
            if (!members.add(one)) {
                continue;
            }
            for (int other = 0; other < now.cards.size(); other++) {
                if (isThere(other, day) && alike(one, other, day) >= last(rulesOf(day), "fingers", 3)) {
                    open.add(other);
                }
            }
        }
        return members;
    }

    int person(int card, int day) {
        need(card, now.cards.size());
        Set<Integer> members = personOf(card, day);
        return members.isEmpty() ? NONE : members.iterator().next();
    }

    int persons(int day, boolean names) {
        Set<Set<Integer>> all = new HashSet<>();
        for (int c = 0; c < now.cards.size(); c++) {
            all.add(personOf(c, day));
        }
        all.remove(Set.of());
        int count = 0;
        for (Set<Integer> members : all) {
            Set<Integer> its = new HashSet<>();
            members.forEach(c -> its.add(now.cards.get(c).name));
            count += !names || its.size() > 1 ? 1 : 0;
        }
        return count;
    }

    boolean tell(int card, int what) {
        need(card, now.cards.size());
        if (what < 0 || what > 2) {
            throw new IllegalArgumentException();
        }
        if (now.cards.get(card).told[what] != NONE) {
            return false;
        }
        now.cards.get(card).told[what] = now.today;
        return true;
    }

    int kept(int card, int day) {
        need(card, now.cards.size());
        Map<String, Long> facts = factsOfCard(card, day);
        return rulesOf(day).stream().filter(r -> r.kind.equals("keep") && r.holds.test(facts)).mapToInt(Rule::number)
                .max().orElse(0);
    }

    // ---- days

    void desk(int n) {
        if (n < 0 || n > 60) {
            throw new IllegalArgumentException();
        }
        now.desk = n;
    }

    int days(int n) {
        if (n < 0 || n > 40) {
            throw new IllegalArgumentException();
        }
        for (int i = 0; i < n && now.today < 2000; i++) {
            now.today++;
            List<int[]> due = new ArrayList<>();
            queue(due, true);
            queue(due, false);
            due.stream().limit(now.desk).forEach(this::compare);
            strike();
        }
        return now.today;
    }

    private void queue(List<int[]> due, boolean grave) {
        for (int m = 0; m < now.marks.size(); m++) {
            if (now.marks.get(m).grave == grave && !isProvedSomewhere(m)) {
                due.addAll(left(m, now.cards));
            }
        }
    }

    private boolean isProvedSomewhere(int mark) {
        for (int c = 0; c < now.cards.size(); c++) {
            for (int f = 0; f < 10; f++) {
                if (now.cards.get(c).struck == NONE && proved(mark, c, f, now.today)) {
                    return true;
                }
            }
        }
        return false;
    }

    private List<int[]> left(int mark, List<Card> cards) {
        List<int[]> found = new ArrayList<>();
        for (int c = 0; c < cards.size(); c++) {
            for (int f = 0; f < 10; f++) {
                Card card = cards.get(c);
                if (card.struck == NONE && card.print[f] != NONE && !card.compared.contains(mark + " " + f)) {
                    found.add(new int[] {mark, c, f});
                }
            }
        }
        return found;
    }

    private void compare(int[] due) {
        Card card = now.cards.get(due[1]);
        card.compared.add(due[0] + " " + due[2]);
        now.comparisons++;
        int print = card.print[due[2]];
        int verdict = verdict(due[0], print, now.today);
        if (verdict > 0 && now.hits.size() < 200) {
            Hit h = new Hit();
            h.mark = due[0];
            h.card = due[1];
            h.finger = due[2];
            h.verdict = verdict;
            h.pairs = layMark(due[0], print).pairs;
            h.truePairs = h.pairs;
            h.day = now.today;
            now.hits.add(h);
        }
    }

    private void strike() {
        List<Rule> rules = rulesOf(now.today);
        boolean anyKeep = rules.stream().anyMatch(r -> r.kind.equals("keep"));
        for (int c = 0; c < now.cards.size(); c++) {
            Card card = now.cards.get(c);
            boolean struck = first(rules, "strike", factsOfCard(c, now.today)) != NONE
                    || anyKeep && now.today - card.day > kept(c, now.today);
            if (card.struck == NONE && struck) {
                card.struck = now.today;
            }
        }
    }

    int look(int card, int what) {
        need(card, now.cards.size());
        Card c = now.cards.get(card);
        switch (what) {
            case 0:
                return c.name;
            case 1:
                return c.day;
            case 2:
                return c.struck;
            case 3:
                return (int) Arrays.stream(c.print).filter(p -> p != NONE).count();
            case 4:
                return (int) Arrays.stream(c.second).filter(s -> s != NONE).count();
            case 5:
                return (int) now.hits.stream().filter(h -> h.card == card).count();
            default:
                throw new NoSuchElementException();
        }
    }

    int hit(int n, int what) {
        if (n < 0 || n >= now.hits.size()) {
            throw new NoSuchElementException();
        }
        Hit h = now.hits.get(n);
        List<Function<Hit, Integer>> whats = List.of(k -> k.mark, k -> k.card, k -> k.finger, k -> k.verdict,
                k -> k.pairs, k -> k.day);
        if (what < 0 || what > 5) {
            throw new NoSuchElementException();
        }
        return whats.get(what).apply(h);
    }

    int left(int mark) {
        need(mark, now.marks.size());
        return left(mark, now.cards).size();
    }

    long rare(int card, boolean below) {
        need(card, now.cards.size());
        BigInteger over = BigInteger.ONE;
        BigInteger under = BigInteger.ONE;
        for (int f = 0; f < 10; f++) {
            int print = now.cards.get(card).print[f];
            if (print == NONE) {
                continue;
            }
            int same = 1;
            int all = 2;
            for (Card c : now.cards) {
                if (c.struck == NONE && c.print[f] != NONE) {
                    all++;
                    same += classOf(c.print[f]) == classOf(print) ? 1 : 0;
                }
            }
            over = over.multiply(BigInteger.valueOf(same));
            under = under.multiply(BigInteger.valueOf(all));
        }
        return (below ? under : over).divide(over.gcd(under)).longValueExact();
    }

    private List<Hit> rows() {
        return now.hits.subList(Math.max(0, now.hits.size() - 6), now.hits.size());
    }

    int tear(int i, int mask) {
        if (i < 0 || i >= rows().size()) {
            throw new NoSuchElementException();
        }
        rows().get(i).pairs ^= mask;
        return rows().get(i).pairs;
    }

    int check() {
        for (int i = 0; i < rows().size(); i++) {
            if (rows().get(i).pairs != rows().get(i).truePairs) {
                return i;
            }
        }
        return NONE;
    }

    void image() {
        image = now.copy();
    }

    boolean back() {
        if (image == null) {
            return false;
        }
        now = image.copy();
        return true;
    }

    int count(int what) {
        int inFile = (int) now.cards.stream().filter(c -> c.struck == NONE).count();
        int[] all = {now.today, now.prints.size(), now.cards.size(), inFile, now.marks.size(), now.texts.size(),
            rulesOf(now.today).size(), now.sayings.size(), now.hits.size(), now.comparisons, now.slack, now.desk};
        return what >= 0 && what < all.length ? all[what] : NONE;
    }

    private static void need(int n, int below) {
        if (n < 0 || n >= below) {
            throw new IndexOutOfBoundsException();
        }
    }
}
