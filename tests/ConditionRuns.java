import java.util.HashMap;
import java.util.Map;
import java.util.Random;
import java.util.function.Predicate;

/**
 * Random conditions of rules, up to 6 deep: what holds of a card or of a mark is told by what each text was made of,
 * part by part, not by reading the text again.
 */
public final class ConditionRuns {
    private static final int RUNS = 400;
    private static final int MOST_BYTES = 400;
    private static final int MOST_DEEP = 6;
    private static final int FIRST_DAY = 4;
    private static final int TEXTS = 10;
    private static final String[] TAGS = {"grave", "child", "cleared", "guilty"};
    private static final String[] FACTS = {"pairs", "against", "points", "class", "age"};

    private final Random random;
    private final RidgeBureau x = new RidgeBureau();
    private final StringBuilder text = new StringBuilder();
    /** The day of each telling of each card; a late one if it is not told. */
    private final int[][] told = new int[4][3];
    private final int[] taken = new int[4];
    private final int[] came = new int[2];
    private final int[] points = {2, 4};

    private ConditionRuns(long seed) {
        random = new Random(seed);
    }

    private boolean chance(int percent) {
        return random.nextInt(100) < percent;
    }

    private Predicate<Map<String, Integer>> any(int deep) {
        Predicate<Map<String, Integer>> its = all(deep);
        while (chance(30)) {
            text.append(" or ");
            its = its.or(all(deep));
        }
        return its;
    }

    private Predicate<Map<String, Integer>> all(int deep) {
        Predicate<Map<String, Integer>> its = atom(deep);
        while (chance(30)) {
            text.append(" and ");
            its = its.and(atom(deep));
        }
        return its;
    }

    private Predicate<Map<String, Integer>> atom(int deep) {
        if (deep < MOST_DEEP && chance(20)) {
            text.append("not ");
            return atom(deep + 1).negate();
        }
        if (deep < MOST_DEEP && chance(35)) {
            text.append('(');
            Predicate<Map<String, Integer>> its = any(deep + 1);
            text.append(')');
            return its;
        }
        if (chance(50)) {
            String tag = TAGS[random.nextInt(TAGS.length)];
            text.append(tag);
            return facts -> facts.get(tag) == 1;
        }
        String fact = FACTS[random.nextInt(FACTS.length)];
        int number = random.nextInt(6);
        boolean isLess = chance(50);
        text.append(fact).append(isLess ? "<" : ">").append(number);
        return facts -> isLess ? facts.get(fact) < number : facts.get(fact) > number;
    }

    private static Map<String, Integer> noFacts() {
        Map<String, Integer> facts = new HashMap<>();
        for (String tag : TAGS) {
            facts.put(tag, 0);
        }
        for (String fact : FACTS) {
            facts.put(fact, 0);
        }
        return facts;
    }

    private Map<String, Integer> ofCard(int card, int day) {
        Map<String, Integer> facts = noFacts();
        facts.put("age", day - taken[card]);
        for (int what = 0; what < 3; what++) {
            facts.put(TAGS[what + 1], told[card][what] <= day ? 1 : 0);
        }
        return facts;
    }

    private Map<String, Integer> ofMark(int mark, int day) {
        Map<String, Integer> facts = noFacts();
        facts.put("pairs", x.lay(mark, 0, 0));
        facts.put("against", x.lay(mark, 0, 1));
        facts.put("points", points[mark]);
        facts.put("class", 2);
        facts.put("age", day - came[mark]);
        facts.put("grave", mark);
        return facts;
    }

    /** Marks 0 and 1 upon print 0, and four cards, that come and are told of on different days. */
    private void begin() {
        Due.print(x, Due.LEFT);
        x.point(0, 20, 20, 0, 0);
        x.point(0, 30, 20, 0, 0);
        x.point(0, 50, 50, 1, 3);
        for (int day = 0; day < FIRST_DAY; day++) {
            x.card(day);
            taken[day] = day;
            for (int what = 0; what < 3; what++) {
                told[day][what] = Integer.MAX_VALUE;
            }
            for (int card = 0; card <= day; card++) {
                int what = random.nextInt(3);
                told[card][what] = x.tell(card, what) ? day : told[card][what];
            }
            if (day % 2 == 1) {
                addMark(day / 2, day);
            }
            x.days(1);
        }
    }

    private void addMark(int mark, int day) {
        x.mark(0, 0, 63, 63, mark == 1);
        came[mark] = day;
        for (int n = 0; n < points[mark]; n++) {
            x.spot(mark, 20 + 10 * n, 20, 0, 4 * (n / 2));
        }
    }

    private void run() {
        begin();
        for (int i = 0; i < TEXTS; i++) {
            Predicate<Map<String, Integer>> keep;
            Predicate<Map<String, Integer>> same;
            do {
                text.setLength(0);
                text.append("keep 7 if ");
                keep = any(0);
                text.append(";same if ");
                same = any(0);
            } while (text.length() > MOST_BYTES);
            look(FIRST_DAY + i, keep, same);
        }
    }

    private void look(int day, Predicate<Map<String, Integer>> keep, Predicate<Map<String, Integer>> same) {
        Due.about("'" + text + "' on day " + day + ": ");
        Due.is("rules", 2, Due.rules(x, day, text.toString()));
        for (int card = 0; card < 4; card++) {
            Due.is("kept of card " + card, keep.test(ofCard(card, day)) ? 7 : 0, x.kept(card, day));
        }
        for (int mark = 0; mark < 2; mark++) {
            Due.is("why of mark " + mark, same.test(ofMark(mark, day)) ? 1 : -1, x.why(mark, 0, day));
        }
        Due.about("");
    }

    public static void main(String[] args) {
        for (long seed = 0; seed < RUNS; seed++) {
            new ConditionRuns(seed).run();
        }
        Due.end();
    }
}
