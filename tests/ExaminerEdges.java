/** Promises 26 to 28 on their edges: what examiners say, and what is proved by it. */
public final class ExaminerEdges {
    private static final int MIN = Integer.MIN_VALUE;
    private static final int MAX = Integer.MAX_VALUE;

    /** Two marks, two prints (an arch and a whorl), two cards: the arch on fingers 0, 5 and 9 of both. */
    private static RidgeBureau bureau() {
        RidgeBureau x = new RidgeBureau();
        Due.print(x, Due.ARCH);
        Due.print(x, Due.WHORL);
        for (int i = 0; i < 2; i++) {
            x.mark(0, 0, 63, 63, false);
            x.card(i);
            x.finger(i, 0, 0);
            x.finger(i, 5, 0);
            x.finger(i, 9, 0);
        }
        return x;
    }

    // ---- promise 26

    private static void whats() {
        for (int what : new int[] {-1, 3, MIN, MAX}) {
            Twins.same("say " + what, Past::rich, x -> Due.illegal("say", () -> x.say(0, 0, 0, 0, what)));
        }
        RidgeBureau x = bureau();
        for (int what = 0; what <= 2; what++) {
            Due.is("say " + what, what + 1, x.say(5, 1, 1, 9, what));
            Due.is("said", what, x.said(5, 1, 1, 9, 0));
        }
        Due.outside("no such examiner is told ahead of what", () -> x.say(6, 0, 0, 0, 3));
        Due.outside("no such finger is told ahead of what", () -> x.say(0, 0, 0, 10, -1));
        Due.illegal("what is told ahead of a finger that is missing", () -> x.say(0, 0, 0, 1, 3));
    }

    private static void missingFingers() {
        // finger 6 of card 1 is missing, finger 1 is not, whose class it has; card 3 has fingers 0 and 4
        for (int[] f : new int[][] {{1, 6}, {1, 3}, {3, 5}, {3, 9}, {0, 1}}) {
            Twins.same("a saying of card " + f[0] + ", finger " + f[1], Past::rich,
                    x -> Due.is("say", -1, x.say(0, 0, f[0], f[1], 1)));
        }
        RidgeBureau x = bureau();
        Due.is("a finger with a print", 1, x.say(0, 0, 0, 5, 1));
        x.finger(0, 5, -1);
        Due.is("missing now", -1, x.say(0, 0, 0, 5, 1));
        Due.is("sayings", 1, x.count(7));
        x.finger(0, 5, 1);
        Due.is("with another print", 2, x.say(0, 0, 0, 5, 1));
    }

    /** The rich past has 3 sayings. */
    private static void sayings(RidgeBureau x, int last) {
        Past.rich(x);
        for (int i = 4; i <= last; i++) {
            Due.is("say", i, x.say(i % 6, 0, 0, 5, i % 3));
        }
    }

    private static void twoHundred() {
        Twins.same("a 201st saying", x -> sayings(x, 200), x -> Due.is("say", -1, x.say(2, 0, 0, 5, 1)));
        Twins.same("a wrong 201st saying", x -> sayings(x, 200),
                x -> Due.illegal("say", () -> x.say(2, 0, 0, 5, 3)));
        Twins.same("a 200th saying of a missing finger", x -> sayings(x, 199),
                x -> Due.is("say", -1, x.say(2, 0, 0, 1, 1)));
        RidgeBureau x = new RidgeBureau();
        sayings(x, 199);
        Due.is("sayings", 199, x.count(7));
        Due.is("a 200th", 200, x.say(5, 1, 1, 9, 1));
        Due.is("it counts", 1, x.said(5, 1, 1, 9, 3));
        Due.is("a 201st", -1, x.say(5, 1, 1, 9, 0));
        Due.is("it does not count", 1, x.said(5, 1, 1, 9, 3));
        Due.is("sayings", 200, x.count(7));
        x.back();
        Due.is("there is room behind the image", 3, x.say(5, 1, 1, 9, 0));
    }

    private static void noSuch() {
        // the rich past has marks 0 to 2, cards 0 to 3
        int[][] wrong = {{-1, 0, 0, 0}, {6, 0, 0, 0}, {MIN, 0, 0, 0}, {MAX, 0, 0, 0}, {0, -1, 0, 0}, {0, 3, 0, 0},
            {0, MIN, 0, 0}, {0, MAX, 0, 0}, {0, 0, -1, 0}, {0, 0, 4, 0}, {0, 0, MIN, 0}, {0, 0, MAX, 0}, {0, 0, 0, -1},
            {0, 0, 0, 10}, {0, 0, 0, MIN}, {0, 0, 0, MAX}};
        for (int[] n : wrong) {
            String what = n[0] + " " + n[1] + " " + n[2] + " " + n[3];
            Twins.same(what, Past::rich, x -> {
                Due.outside("say " + what, () -> x.say(n[0], n[1], n[2], n[3], 1));
                Due.outside("said " + what, () -> x.said(n[0], n[1], n[2], n[3], 0));
                if (n[0] == 0) {
                    Due.outside("proved " + what, () -> x.proved(n[1], n[2], n[3], 0));
                }
            });
        }
        RidgeBureau x = new RidgeBureau();
        Past.rich(x);
        Due.is("the last of each", -1, x.said(5, 2, 3, 9, 0));
        Due.is("the last of each", false, x.proved(2, 3, 9, 0));
        x.finger(3, 9, 0);
        Due.is("the last of each", 4, x.say(5, 2, 3, 9, 1));
        Due.is("the last of each", 1, x.said(5, 2, 3, 9, 3));
    }

    // ---- promise 27

    private static void asKnownOnADay() {
        RidgeBureau x = bureau();
        x.days(3);
        x.say(1, 0, 0, 0, 1);
        x.days(2);
        x.say(1, 0, 0, 0, 2);
        x.say(1, 0, 0, 0, 0);
        x.days(1);
        int[] days = {MIN, -1, 0, 2, 3, 4, 5, 6, 7, MAX};
        int[] due = {-1, -1, -1, -1, 1, 1, 0, 0, 0, 0};
        for (int i = 0; i < days.length; i++) {
            Due.is("said, as known on day " + days[i], due[i], x.said(1, 0, 0, 0, days[i]));
        }
        x.finger(0, 0, 1);
        Due.is("of the finger with another print", 0, x.said(1, 0, 0, 0, 6));
        x.finger(0, 0, -1);
        Due.is("of the finger that is missing", 1, x.said(1, 0, 0, 0, 3));
    }

    private static void eachByItself() {
        RidgeBureau x = bureau();
        int[][] all = {{0, 0, 0, 0}, {5, 0, 0, 0}, {0, 1, 0, 0}, {0, 0, 1, 0}, {0, 0, 0, 5}, {5, 1, 1, 9}};
        for (int i = 0; i < all.length; i++) {
            int[] s = all[i];
            Due.is("nothing", -1, x.said(s[0], s[1], s[2], s[3], 0));
            x.say(s[0], s[1], s[2], s[3], i % 3);
            for (int j = 0; j < all.length; j++) {
                int[] t = all[j];
                Due.is("said", j <= i ? j % 3 : -1, x.said(t[0], t[1], t[2], t[3], 0));
            }
        }
    }

    // ---- promise 28

    private static void needed() {
        for (int need = 0; need <= 6; need++) {
            RidgeBureau x = bureau();
            Due.rules(x, 0, need == 0 ? "same if class<1" : "need 6;same if class<1;need " + need);
            int due = Math.max(1, need);
            for (int e = 0; e < 6; e++) {
                Due.is("need " + need + ", same by " + e, e >= due, x.proved(1, 0, 5, 0));
                Due.is("on the day ahead of the rules", false, x.proved(1, 0, 5, -1));
                x.say(e, 1, 0, 5, 1);
                x.say(e, 1, 0, 5, 1);
            }
            Due.is("need " + need + ", same by all", true, x.proved(1, 0, 5, 0));
            for (int e = 5; e >= 0; e--) {
                x.say(e, 1, 0, 5, 2);
                Due.is("need " + need + ", open by " + (6 - e), e >= due, x.proved(1, 0, 5, 0));
            }
        }
    }

    private static void noneSaysNot() {
        for (int e = 0; e < 6; e++) {
            RidgeBureau x = bureau();
            Due.rules(x, 0, "same if class<1;need 4");
            for (int same = 0; same < 6; same++) {
                if (same != e) {
                    x.say(same, 0, 0, 0, 1);
                }
            }
            Due.is("five say same", true, x.proved(0, 0, 0, 0));
            x.say(e, 0, 0, 5, 0);
            x.say(e, 0, 1, 0, 0);
            x.say(e, 1, 0, 0, 0);
            Due.is("not is said of others", true, x.proved(0, 0, 0, 0));
            x.say(e, 0, 0, 0, 0);
            Due.is("not by " + e, false, x.proved(0, 0, 0, 0));
            x.say(e, 0, 0, 0, 2);
            Due.is("open by " + e, true, x.proved(0, 0, 0, 0));
        }
    }

    private static void provedOnDays() {
        RidgeBureau x = bureau();
        Due.rules(x, 1, "same if class<1");
        Due.rules(x, 4, "same if class<1;need 2");
        Due.rules(x, 6, "doubt if class<1;need 1");
        Due.rules(x, 7, "same if class<1 and age<7");
        x.say(0, 0, 0, 0, 1);
        x.days(3);
        x.say(1, 0, 0, 0, 0);
        x.days(2);
        x.say(1, 0, 0, 0, 1);
        x.days(4);
        // no rules on day 0; one is enough till another says not; two are needed; doubt; too old; from 7 on
        boolean[] due = {false, true, true, false, false, true, false, false, false};
        for (int day = 0; day < due.length; day++) {
            Due.is("proved on day " + day, due[day], x.proved(0, 0, 0, day));
        }
        Due.is("proved on the least day", false, x.proved(0, 0, 0, MIN));
        Due.is("proved on the last day", false, x.proved(0, 0, 0, MAX));
        Due.rules(x, 9, "same if class<1");
        Due.is("proved on the last day", true, x.proved(0, 0, 0, MAX));
    }

    private static void byThePrintOfNow() {
        RidgeBureau x = bureau();
        Due.rules(x, 0, "same if class<1");
        x.say(0, 0, 0, 9, 1);
        Due.is("the arch", true, x.proved(0, 0, 9, 0));
        x.finger(0, 9, 1);
        Due.is("the whorl", false, x.proved(0, 0, 9, 0));
        x.finger(0, 9, -1);
        Due.is("missing", false, x.proved(0, 0, 9, 0));
        x.finger(0, 4, 0);
        Due.is("missing, the other hand's is an arch", false, x.proved(0, 0, 9, 0));
        x.finger(0, 9, 0);
        Due.is("the arch again", true, x.proved(0, 0, 9, 0));
    }

    public static void main(String[] args) {
        Edge.of(26, "IllegalArgumentException: it is not 0 to 2.", ExaminerEdges::whats);
        Edge.ofTerms("0 not, 1 same, 2 open", ExaminerEdges::whats);
        Edge.of(26, "NONE, and it does not count, if there are 200", ExaminerEdges::twoHundred);
        Edge.ofTerms("at most 200 sayings", ExaminerEdges::twoHundred);
        Edge.of(26, "or the FINGER is MISSING", ExaminerEdges::missingFingers);
        Edge.ofTerms("a FINGER of a CARD that has a PRINT", ExaminerEdges::missingFingers);
        Edge.ofTerms("CARD, FINGER, MARK, EXAMINER.", ExaminerEdges::noSuch);
        Edge.ofTerms("EXAMINERS 0 to 5", ExaminerEdges::noSuch);
        Edge.of(27, "What an EXAMINER says, as known on a DAY; NONE: nothing.", ExaminerEdges::asKnownOnADay);
        Edge.ofTerms("of each EXAMINER what was said last up to it (of that MARK, CARD, FINGER) counts",
                ExaminerEdges::eachByItself);
        Edge.ofTerms("at least so many EXAMINERS say same as the last need RULE of it (1 without)",
                ExaminerEdges::needed);
        Edge.ofTerms("and none says not", ExaminerEdges::noneSaysNot);
        Edge.of(28, "PROVED on a DAY", ExaminerEdges::provedOnDays);
        Edge.of(28, "(by the PRINT that the FINGER has now; MISSING: false)", ExaminerEdges::byThePrintOfNow);
        Edge.end(26, 27, 28);
    }
}
