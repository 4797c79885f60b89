/** Promises 26 to 28: what examiners say, and what is proved by it. */
public final class ExaminerPromises {
    private static final int MIN = Integer.MIN_VALUE;
    private static final int MAX = Integer.MAX_VALUE;

    /** Two marks, two prints, two cards: print 0 on finger 0 and 1 of both. */
    private static RidgeBureau bureau() {
        RidgeBureau x = new RidgeBureau();
        Due.print(x, Due.ARCH);
        Due.print(x, Due.ODD);
        for (int i = 0; i < 2; i++) {
            x.mark(0, 0, 63, 63, false);
            x.card(i);
            x.finger(i, 0, 0);
            x.finger(i, 1, 0);
        }
        return x;
    }

    private static void promise26() {
        RidgeBureau x = bureau();
        Due.is("a saying", 1, x.say(0, 0, 0, 0, 0));
        Due.is("the same once more", 2, x.say(0, 0, 0, 0, 0));
        Due.is("of a missing finger", -1, x.say(0, 0, 0, 2, 1));
        Due.is("sayings", 2, x.count(7));
        Due.illegal("what 3", () -> x.say(0, 0, 0, 0, 3));
        Due.illegal("what -1", () -> x.say(0, 0, 0, 0, -1));
        Due.illegal("what is told ahead of a missing finger", () -> x.say(0, 0, 0, 2, 3));
        int[][] wrong = {{6, 0, 0, 0}, {-1, 0, 0, 0}, {0, 2, 0, 0}, {0, -1, 0, 0}, {0, 0, 2, 0}, {0, 0, -1, 0},
            {0, 0, 0, 10}, {0, 0, 0, -1}, {MAX, MIN, MAX, MIN}};
        for (int[] s : wrong) {
            Due.outside("say", () -> x.say(s[0], s[1], s[2], s[3], 9));
        }
        for (int i = 3; i <= 200; i++) {
            Due.is("sayings", i, x.say(5, 1, 1, 1, 2));
        }
        Due.is("a 201st", -1, x.say(5, 1, 1, 1, 1));
        Due.is("sayings", 200, x.count(7));
        Due.is("it does not count", 2, x.said(5, 1, 1, 1, 0));
        Due.illegal("what is told ahead of there being 200", () -> x.say(0, 0, 0, 0, 3));
    }

    private static void promise27() {
        RidgeBureau x = bureau();
        Due.is("nothing", -1, x.said(0, 0, 0, 0, 0));
        x.days(2);
        x.say(0, 0, 0, 0, 1);
        x.say(1, 0, 0, 0, 0);
        x.say(0, 1, 0, 0, 2);
        x.say(0, 0, 1, 0, 0);
        x.say(0, 0, 0, 1, 2);
        Due.is("as known the day ahead", -1, x.said(0, 0, 0, 0, 1));
        Due.is("as known today", 1, x.said(0, 0, 0, 0, 2));
        Due.is("another examiner", 0, x.said(1, 0, 0, 0, 2));
        Due.is("one that says nothing", -1, x.said(2, 0, 0, 0, 2));
        Due.is("another mark", 2, x.said(0, 1, 0, 0, 2));
        Due.is("another card", 0, x.said(0, 0, 1, 0, 2));
        Due.is("another finger", 2, x.said(0, 0, 0, 1, 2));
        x.days(1);
        x.say(0, 0, 0, 0, 2);
        x.say(0, 0, 0, 0, 0);
        Due.is("the last of a day", 0, x.said(0, 0, 0, 0, 3));
        Due.is("as known then", 1, x.said(0, 0, 0, 0, 2));
        Due.is("later", 0, x.said(0, 0, 0, 0, MAX));
        Due.is("long ahead", -1, x.said(0, 0, 0, 0, MIN));
        x.finger(0, 0, -1);
        Due.is("a finger that is missing now", 0, x.said(0, 0, 0, 0, 3));
        int[][] wrong = {{6, 0, 0, 0}, {-1, 0, 0, 0}, {0, 2, 0, 0}, {0, -1, 0, 0}, {0, 0, 2, 0}, {0, 0, -1, 0},
            {0, 0, 0, 10}, {0, 0, 0, -1}};
        for (int[] s : wrong) {
            Due.outside("said", () -> x.said(s[0], s[1], s[2], s[3], 0));
        }
    }

    private static void promise28() {
        RidgeBureau x = bureau();
        x.say(0, 0, 0, 0, 1);
        Due.is("without rules", false, x.proved(0, 0, 0, 0));
        Due.rules(x, 0, "same if class<7");
        Due.is("one is enough without a need", true, x.proved(0, 0, 0, 0));
        Due.is("of another mark", false, x.proved(1, 0, 0, 0));
        Due.is("of another card", false, x.proved(0, 1, 0, 0));
        Due.is("of another finger", false, x.proved(0, 0, 1, 0));
        x.say(1, 0, 0, 0, 2);
        Due.is("open does no harm", true, x.proved(0, 0, 0, 0));
        x.say(1, 0, 0, 0, 0);
        Due.is("one says not", false, x.proved(0, 0, 0, 0));
        x.days(1);
        x.say(1, 0, 0, 0, 1);
        Due.is("one that changed its mind", true, x.proved(0, 0, 0, 1));
        Due.is("as known then", false, x.proved(0, 0, 0, 0));
        Due.rules(x, 2, "need 1;same if class<7;need 2");
        Due.rules(x, 3, "need 2;doubt if class<7");
        Due.rules(x, 4, "need 6;same if class<7;need 3");
        Due.is("the last need: two", true, x.proved(0, 0, 0, 2));
        Due.is("doubt is not enough", false, x.proved(0, 0, 0, 3));
        Due.is("the last need: three", false, x.proved(0, 0, 0, 4));
        x.say(1, 0, 0, 0, 2);
        Due.is("one of two is open", false, x.proved(0, 0, 0, 2));
        Due.is("with one by the rules from 0 on", true, x.proved(0, 0, 0, 1));
        x.finger(0, 0, 1);
        Due.is("by the print that it has now", false, x.proved(0, 0, 0, 1));
        x.finger(0, 0, -1);
        Due.is("missing", false, x.proved(0, 0, 0, 1));
        x.finger(0, 0, 0);
        Due.is("as it was", true, x.proved(0, 0, 0, 1));
        RidgeBureau y = bureau();
        Due.rules(y, 0, "same if class<7");
        Due.is("nobody says anything", false, y.proved(0, 0, 0, 0));
        Due.outside("mark 2", () -> x.proved(2, 0, 0, 0));
        Due.outside("mark -1", () -> x.proved(-1, 0, 0, 0));
        Due.outside("card 2", () -> x.proved(0, 2, 0, 0));
        Due.outside("card -1", () -> x.proved(0, -1, 0, 0));
        Due.outside("finger 10", () -> x.proved(0, 0, 10, 0));
        Due.outside("finger -1", () -> x.proved(0, 0, -1, 0));
    }

    public static void main(String[] args) {
        promise26();
        promise27();
        promise28();
        Due.end();
    }
}
