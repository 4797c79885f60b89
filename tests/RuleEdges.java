import java.util.Arrays;
import java.util.List;

/** Promises 23 to 25 and 33 on their edges: texts of rules, verdicts by them, and how long cards are kept. */
public final class RuleEdges {
    private static final int MIN = Integer.MIN_VALUE;
    private static final int MAX = Integer.MAX_VALUE;

    /** Puts a text on the tape of a new object and reads it: so many rules, or the first wrong byte, are due. */
    private static void read(String text, boolean isRight, int due) {
        RidgeBureau x = new RidgeBureau();
        Due.write(x, text);
        if (isRight) {
            Due.is("rules of '" + text + "'", due, x.rules(0));
            Due.is("fault of '" + text + "'", -1, x.fault());
            Due.is("rules of today by '" + text + "'", due, x.count(6));
            Due.is("texts behind '" + text + "'", 1, x.count(5));
        } else {
            Due.illegal("rules of '" + text + "'", () -> x.rules(0));
            Due.is("fault of '" + text + "'", due, x.fault());
            Due.is("rules of today behind '" + text + "'", 0, x.count(6));
            Due.is("texts behind '" + text + "'", 0, x.count(5));
        }
        Due.is("the tape behind '" + text + "'", false, x.end(1));
    }

    private static void right(String text, int rules) {
        read(text, true, rules);
    }

    private static void wrong(String text, int fault) {
        read(text, false, fault);
    }

    // ---- promise 23: what may stand where

    private static final List<String> KINDS = List.of("same", "doubt", "need", "fingers", "keep", "strike");
    private static final List<String> TAGS = List.of("grave", "child", "cleared", "guilty");
    private static final List<String> FACTS = List.of("pairs", "against", "points", "class", "age");
    private static final List<String> OTHERS =
            List.of("if", "and", "or", "(", ")", "<", ">", ";", "1", "not", "x", "#");

    /** Behind so much of a text: whether it may end there, and lists of all things that can stand there. */
    @SafeVarargs
    private static void behind(String text, boolean mayEnd, List<String>... lists) {
        int at = text.isEmpty() ? 0 : text.length() + 1;
        String ahead = text.isEmpty() ? "" : text + " ";
        read(text, mayEnd, mayEnd ? rulesIn(text) : text.length());
        read(text + "  ", mayEnd, mayEnd ? rulesIn(text) : text.length() + 2);
        for (List<String> all : List.of(KINDS, TAGS, FACTS, OTHERS)) {
            for (String word : all) {
                boolean isDue = false;
                for (List<String> may : lists) {
                    isDue |= may.contains(word);
                }
                String with = ahead + word;
                boolean ends = TAGS.contains(word) || word.equals("1") || word.equals(")");
                if (!isDue) {
                    wrong(with, at);
                    wrong(with + " need", at);
                } else if (ends && isClosed(with)) {
                    right(with, rulesIn(with));
                } else {
                    wrong(with, with.length());
                    wrong(with + " ", with.length() + 1);
                }
            }
        }
    }

    private static int rulesIn(String text) {
        return text.isEmpty() ? 0 : text.split(";").length;
    }

    private static boolean isClosed(String text) {
        return text.replace("(", "").length() == text.replace(")", "").length();
    }

    private static void whatStandsWhere() {
        List<String> number = List.of("1");
        List<String> begin = List.of("not", "(");
        behind("", true, KINDS);
        behind("need 1;", false, KINDS);
        for (String kind : List.of("same", "doubt", "strike", "need 1; same")) {
            behind(kind, false, List.of("if"));
        }
        for (String kind : List.of("need", "fingers", "keep", "same if grave; keep")) {
            behind(kind, false, number);
        }
        behind("need 1", true, List.of(";"));
        behind("fingers 10", true, List.of(";"));
        behind("keep 1", true, List.of("if", ";"));
        for (String open : List.of("same if", "doubt if", "strike if", "keep 1 if", "same if grave and",
                "same if grave or", "same if (", "same if not", "same if child and (", "same if not (")) {
            behind(open, false, begin, TAGS, FACTS);
        }
        for (String fact : FACTS) {
            behind("same if " + fact, false, List.of("<", ">"));
            behind("same if " + fact + " <", false, number);
            behind("same if " + fact + " >", false, number);
            behind("same if " + fact + " > 1", true, List.of("and", "or", ";"));
        }
        for (String tag : TAGS) {
            behind("keep 1 if " + tag, true, List.of("and", "or", ";"));
        }
        for (String done : List.of("same if (grave)", "same if not grave", "same if not (age < 1)",
                "same if grave or child", "same if grave and child", "need 1; strike if child")) {
            behind(done, true, List.of("and", "or", ";"));
        }
        for (String open : List.of("same if (grave", "same if (age<1", "same if not (grave", "same if ((grave)")) {
            behind(open, false, List.of("and", "or", ")"));
        }
    }

    // ---- numbers

    /** A number of a text: right within its bounds with 1 to 4 digits, else its begin is wrong. */
    private static void bounds(String ahead, int least, int most) {
        int at = ahead.length();
        for (int n : new int[] {least - 1, least, least + 1, most - 1, most, most + 1}) {
            if (n < 0) {
                continue;
            }
            String digits = String.valueOf(n);
            read(ahead + digits, n >= least && n <= most, n >= least && n <= most ? 1 : at);
            for (int size = digits.length() + 1; size <= 6; size++) {
                String longer = "0".repeat(size - digits.length()) + digits;
                boolean isRight = size <= 4 && n >= least && n <= most;
                read(ahead + longer, isRight, isRight ? 1 : at);
            }
        }
        wrong(ahead + "9".repeat(380 - at), at);
        wrong(ahead + "4294967297", at);
        wrong(ahead + "-1", at);
        wrong(ahead + "+1", at);
        wrong(ahead + "1 1", at + 2);
        wrong(ahead + "1x", at + 1);
    }

    private static void numbers() {
        bounds("need ", 1, 6);
        bounds("fingers ", 1, 10);
        bounds("keep ", 0, 9999);
        bounds("same if age < ", 0, 9999);
        bounds("doubt if pairs>", 0, 9999);
        bounds("need", 1, 6);
    }

    // ---- words and blanks

    private static void words() {
        for (List<String> all : List.of(KINDS, TAGS, FACTS, List.of("if", "and", "or", "not"))) {
            for (String word : all) {
                for (String letter : List.of("a", "s", "z")) {
                    wrong("need 1;" + word + letter, 7);
                    wrong("need 1;" + letter + word, 7);
                    wrong("need 1;" + word + letter + " if grave", 7);
                }
                otherLetters(word);
                if (!word.equals("and") && !word.equals("or")) {
                    wrong("same if grave" + word, 8);
                }
            }
        }
        // a part of a word is a word that is none, even at the end of the text
        for (String word : KINDS) {
            for (int size = 1; size < word.length(); size++) {
                wrong(word.substring(0, size), 0);
            }
        }
        wrong("same if g", 8);
        wrong("same i", 5);
        wrong("keep 1 i", 7);
        wrong("same if grave an", 14);
        // signs that stand beside a to z, 0 to 9, blanks, and ( ) < > ; are no part of a word, and none themselves
        int[] signs = {0, 9, 10, 13, 31, 33, 39, 42, 47, 58, 61, 64, 'A', 'Z', 96, 123, 127, 128, 160, 255};
        for (int sign : signs) {
            String it = String.valueOf((char) sign);
            wrong("need" + it + "1", 4);
            wrong("need 1" + it, 6);
            wrong(it, 0);
            wrong("same if grave" + it + "and child", 13);
            wrong("same if age" + it + "1", 11);
        }
    }

    /** Each letter of a word that could stand there is another one. */
    private static void otherLetters(String word) {
        String ahead = KINDS.contains(word) ? "" : "same if grave and ";
        for (int i = 0; i < word.length(); i++) {
            for (String letter : List.of("q", "z", word.toUpperCase().substring(i, i + 1))) {
                String other = word.substring(0, i) + letter + word.substring(i + 1);
                // a great letter is no letter of a word: the word ends ahead of it
                boolean isWord = Character.isLowerCase(letter.charAt(0));
                boolean isSign = !isWord && (i == 0 || isNone(word.substring(0, i)));
                wrong(ahead + other, isWord || isSign ? ahead.length() : ahead.length() + i);
            }
        }
    }

    private static boolean isNone(String word) {
        return !KINDS.contains(word) && !TAGS.contains(word) && !FACTS.contains(word) && !OTHERS.contains(word);
    }

    private static void blanks() {
        right("", 0);
        right(" ", 0);
        right(" ".repeat(400), 0);
        right("need6;keep0000if(age>0)or child and not(grave);fingers10;same if pairs<1and guilty", 4);
        String[] things = {"keep", "7", "if", "(", "age", ">", "1", "or", "not", "grave", ")", "and", "child", ";",
            "need", "1"};
        String ahead = "";
        for (int i = 0; i < things.length; i++) {
            ahead += things[i] + " ";
            String text = ahead + " ".repeat(300) + String.join(" ", Arrays.copyOfRange(things, i + 1, things.length));
            right(text, 2);
        }
        right(" ".repeat(394) + "need 6", 1);
        right("need 6" + " ".repeat(394), 1);
        wrong(" ".repeat(396) + "need", 400);
        wrong(" ".repeat(394) + "need 7", 399);
        wrong(" ".repeat(399) + ";", 399);
        right("keep 9 if child" + " or child".repeat(42) + "       ", 1);
        wrong("keep 9 if child" + " or child".repeat(42) + "     or", 400);
        right("same if age>1" + " and age>1".repeat(38) + "       ", 1);
        // words do not go on over a blank, nor do numbers
        wrong("sa me if grave", 0);
        wrong("keep 1 2 if grave", 7);
    }

    // ---- how deep, how many

    /** All ways to put seven of ( and not into one another: six may stand, the seventh may not. */
    private static void depths() {
        for (int bits = 0; bits < 128; bits++) {
            StringBuilder opened = new StringBuilder("same if ");
            StringBuilder closed = new StringBuilder();
            for (int depth = 1; depth <= 7; depth++) {
                int at = opened.length();
                boolean isNot = (bits >> depth - 1 & 1) == 1;
                opened.append(isNot ? "not " : "(");
                closed.append(isNot ? "" : ")");
                if (depth == 7) {
                    wrong(opened + "grave" + closed, at);
                    wrong(opened.toString(), at);
                } else if (bits >> depth == 0) {
                    right(opened + "grave" + closed, 1);
                    right(opened + "age<1" + closed + " and " + opened.substring(8) + "child" + closed, 1);
                }
            }
        }
        right("same if not not not not not not grave and not grave or (((((child or not child)))))", 1);
        right("same if (((((not grave and not child)))))", 1);
        wrong("same if (((((not not grave)))))", 17);
        right("same if grave;same if ((((((grave))))));same if ((((((grave))))))", 3);
    }

    private static void twelveRules() {
        String[] rules = {"same if grave", "doubt if age<1", "need 1", "fingers 3", "keep 4", "keep 4 if child",
            "strike if child"};
        for (String rule : rules) {
            String twelve = (rule + ";").repeat(11) + rule;
            right((rule + ";").repeat(10) + rule, 11);
            right(twelve, 12);
            wrong(twelve + ";", twelve.length() + 1);
            wrong(twelve + "; ", twelve.length() + 2);
            wrong(twelve + ";" + rule, twelve.length() + 1);
            wrong(twelve + " ;  " + rule, twelve.length() + 4);
            wrong(twelve + ";x", twelve.length() + 1);
            wrong(twelve + ";;", twelve.length() + 1);
            wrong(twelve + " x", twelve.length() + 1);
        }
        right("need 1", 1);
        wrong("need 1;", 7);
        wrong(";", 0);
    }

    // ---- from which days on

    private static void firstAndLastDay() {
        for (int today : new int[] {0, 5, 1999, 2000}) {
            RidgeBureau x = new RidgeBureau();
            for (int left = today; left > 0; left -= 40) {
                x.days(Math.min(left, 40));
            }
            for (int day : new int[] {today - 1, 2001, MIN, MAX, -1}) {
                Due.write(x, "need 1");
                Due.illegal("rules from " + day + " on day " + today, () -> x.rules(day));
                Due.is("the tape is used up", false, x.end(1));
            }
            Due.is("texts", 0, x.count(5));
            Due.is("rules from today", 1, Due.rules(x, today, "need 1"));
            Due.is("rules from 2000", 2, Due.rules(x, 2000, "need 1;need 1"));
            Due.is("texts", 2, x.count(5));
            Due.is("rules of today", today == 2000 ? 2 : 1, x.count(6));
        }
    }

    private static void refusedDays() {
        // the rich past is of day 3; its fault is 1
        for (int day : new int[] {2, -1, 2001, MIN, MAX}) {
            for (String text : new String[] {"need 1", "need 9", ""}) {
                Twins.sameButTape("rules of '" + text + "' from " + day, 1, x -> {
                    Past.rich(x);
                    x.end(0);
                    Due.write(x, text);
                }, x -> Due.illegal("rules", () -> x.rules(day)));
            }
        }
    }

    private static void refusedTexts() {
        String[] texts = {"x", "need 0", "need 1;", "same if grave and", "keep 1 if (((((((grave)))))))"};
        int[] faults = {0, 5, 7, 17, 16};
        for (int i = 0; i < texts.length; i++) {
            String text = texts[i];
            Twins.sameButTape("rules of '" + text + "'", faults[i], x -> {
                Past.rich(x);
                x.end(0);
                Due.write(x, text);
            }, x -> Due.illegal("rules", () -> x.rules(3)));
        }
    }

    /** The rich past has two texts. */
    private static void tenTexts(RidgeBureau x) {
        Past.rich(x);
        x.end(0);
        for (int i = 2; i < 10; i++) {
            Due.is("rules", 1, Due.rules(x, i == 9 ? 4 : 100 + i, i == 9 ? "keep 2" : "need 1"));
        }
    }

    private static void aTextTooMany() {
        Twins.sameButTape("an 11th text", -1, x -> {
            tenTexts(x);
            Due.write(x, "need 1;keep 0");
        }, x -> Due.unsupported("rules", () -> x.rules(3)));
        Twins.sameButTape("a wrong 11th text", 5, x -> {
            tenTexts(x);
            Due.write(x, "need 0");
        }, x -> Due.illegal("rules", () -> x.rules(3)));
        Twins.sameButTape("an 11th text from a wrong day", -1, x -> {
            tenTexts(x);
            Due.write(x, "need 0");
        }, x -> Due.illegal("rules", () -> x.rules(2)));
        RidgeBureau x = new RidgeBureau();
        tenTexts(x);
        Due.is("texts", 10, x.count(5));
        Due.is("the tenth counts", 2, x.kept(0, 4));
        Due.unsupported("an empty 11th text", () -> x.rules(4));
        Due.is("fault of the empty one", -1, x.fault());
    }

    private static void ofADay() {
        RidgeBureau x = new RidgeBureau();
        x.card(1);
        int[] from = {5, 9, 9, 7, 2000};
        for (int i = 0; i < from.length; i++) {
            Due.rules(x, from[i], "keep " + (i + 1));
        }
        int[] days = {MIN, -1, 0, 4, 5, 6, 7, 8, 9, 10, 1999, 2000, 2001, MAX};
        int[] due = {0, 0, 0, 0, 1, 1, 4, 4, 3, 3, 3, 5, 5, 5};
        for (int i = 0; i < days.length; i++) {
            Due.is("kept on day " + days[i], due[i], x.kept(0, days[i]));
        }
        Due.rules(x, 5, "keep 6;need 2");
        Due.is("the day ahead of it", 0, x.kept(0, 4));
        Due.is("told last of that day", 6, x.kept(0, 5));
        Due.is("the next day", 6, x.kept(0, 6));
        Due.is("that of a later day stays", 4, x.kept(0, 7));
        Due.rules(x, 7, "");
        Due.is("an empty text is one, too", 0, x.kept(0, 7));
        Due.is("and on the next day", 0, x.kept(0, 8));
        Due.is("and no further", 3, x.kept(0, 9));
        int[] rulesOf = {0, 0, 0, 0, 0, 2, 2, 0, 0, 1, 1};
        for (int day = 0; day <= 10; day++) {
            Due.is("rules of day " + day, rulesOf[day], x.count(6));
            x.days(1);
        }
    }

    // ---- promises 24 and 25

    /** Mark 0 (grave, 4 points, of day 2) upon print 0 (a whorl): 2 pairs, 3 against; mark 1 is not grave. */
    private static RidgeBureau bureau() {
        RidgeBureau x = new RidgeBureau();
        Due.print(x, Due.WHORL);
        x.point(0, 20, 20, 0, 0);
        x.point(0, 30, 20, 0, 0);
        x.point(0, 45, 37, 1, 2);
        x.days(2);
        for (int m = 0; m < 2; m++) {
            x.mark(0, 0, 63, 63, m == 0);
            x.spot(m, 20, 20, 0, 0);
            x.spot(m, 30, 20, 0, 0);
            x.spot(m, 25, 25, 0, 8);
            x.spot(m, 29, 31, 0, 8);
        }
        x.slack(0);
        return x;
    }

    private static void lessAndMore() {
        int[] values = {2, 3, 4, 6, 5};
        for (int i = 0; i < 5; i++) {
            for (int n = values[i] - 1; n <= values[i] + 1; n++) {
                RidgeBureau x = bureau();
                Due.rules(x, 2, "same if " + FACTS.get(i) + "<" + n + ";doubt if " + FACTS.get(i) + ">" + n);
                int due = values[i] < n ? 2 : values[i] > n ? 1 : 0;
                Due.is("verdict by " + FACTS.get(i) + " and " + n, due, x.verdict(0, 0, 7));
                Due.is("why by " + FACTS.get(i) + " and " + n, due == 0 ? -1 : 2 - due, x.why(0, 0, 7));
            }
        }
    }

    private static void zeroes() {
        RidgeBureau x = new RidgeBureau();
        Due.print(x, Due.ARCH);
        x.mark(0, 0, 63, 63, false);
        Due.rules(x, 0, "same if pairs<0 or against<0 or points<0 or class<0 or age<0;"
                + "same if pairs>0 or against>0 or points>0 or class>0 or age>0;"
                + "doubt if pairs<1 and against<1 and points<1 and class<1 and age<1");
        Due.is("all are 0", 1, x.verdict(0, 0, 0));
        Due.is("all are 0", 2, x.why(0, 0, 0));
        Due.is("age 1", 2, x.verdict(0, 0, 1));
        Due.is("age 1", 1, x.why(0, 0, 1));
    }

    private static void ages() {
        RidgeBureau x = bureau();
        Due.rules(x, 2, "doubt if age<0;doubt if age>0;doubt if not age<9999 and not age>9999;same if age<1 and age>0;"
                + "doubt if not grave and age<1");
        int[] days = {2, 3, 10000, 10001, 10002, MAX};
        int[] due = {-1, 1, 1, 1, 1, 1};
        for (int i = 0; i < days.length; i++) {
            Due.is("why on day " + days[i], due[i], x.why(0, 0, days[i]));
        }
        Due.is("the other mark on its day", 4, x.why(1, 0, 2));
        RidgeBureau y = new RidgeBureau();
        Due.print(y, Due.ARCH);
        Due.rules(y, 0, "same if age<0;doubt if not age<0 and not age>0;doubt if age>2000;doubt if age>0");
        y.days(3);
        y.mark(0, 0, 1, 1, false);
        int[] early = {0, 2, 3, 4, 2003, 2004, MAX};
        int[] dueEarly = {0, 0, 1, 3, 3, 2, 2};
        for (int i = 0; i < early.length; i++) {
            Due.is("why on day " + early[i], dueEarly[i], y.why(0, 0, early[i]));
        }
        Due.is("no rules ahead of day 0", 0, y.verdict(0, 0, -1));
        Due.is("nor on the least day", -1, y.why(0, 0, MIN));
    }

    private static void tagsOfMarks() {
        RidgeBureau x = bureau();
        Due.rules(x, 2, "same if child or cleared or guilty;doubt if grave");
        Due.is("the grave mark", 1, x.verdict(0, 0, 2));
        Due.is("the other", 0, x.verdict(1, 0, 2));
        Due.rules(x, 2, "same if not child and not cleared and not guilty and not grave");
        Due.is("the grave mark", 0, x.verdict(0, 0, 2));
        Due.is("the other", 2, x.verdict(1, 0, 2));
    }

    private static void firstOfThose() {
        String never = "same if pairs>9;";
        RidgeBureau x = bureau();
        Due.rules(x, 2, never.repeat(11) + "same if pairs>1");
        Due.is("the 12th rule", 11, x.why(0, 0, 2));
        Due.rules(x, 3, "same if pairs>1;" + never.repeat(10) + "same if pairs>1");
        Due.is("the first of two", 0, x.why(0, 0, 3));
        Due.rules(x, 4, "doubt if pairs>1;" + never + "same if pairs>1;same if pairs>0");
        Due.is("same ahead of doubt", 2, x.why(0, 0, 4));
        Due.is("same ahead of doubt", 2, x.verdict(0, 0, 4));
        Due.rules(x, 5, "keep 1;need 1;strike if pairs>1;fingers 1;" + never + "doubt if pairs>1;doubt if pairs>1");
        Due.is("others are not told", 5, x.why(0, 0, 5));
        Due.is("doubt", 1, x.verdict(0, 0, 5));
        Due.rules(x, 6, "keep 1;strike if pairs>1");
        Due.is("none", -1, x.why(0, 0, 6));
        Due.is("none", 0, x.verdict(0, 0, 6));
        Due.is("ahead of any", -1, x.why(0, 0, 1));
        Due.is("ahead of any", 0, x.verdict(0, 0, 1));
    }

    /** and binds more than or, not binds the next atom alone: all ways that three facts may be. */
    private static void conditions() {
        String[] texts = {"A or B and C", "A and B or C", "not A or B", "not A and B or C", "(A or B) and C",
            "not (A or B) and C", "not not A and B", "A and not (B and not C)", "A or B or C", "A and B and C",
            "not (not (A) and not (B or not C))", "A and B or A and C or B and C", "A and (B or C)",
            "(A or B) and (B or C)", "A and (B or C) and not (B and C)"};
        for (int bits = 0; bits < 8; bits++) {
            boolean a = (bits & 1) != 0;
            boolean b = (bits & 2) != 0;
            boolean c = (bits & 4) != 0;
            boolean[] due = {a || b && c, a && b || c, !a || b, !a && b || c, (a || b) && c, !(a || b) && c, a && b,
                a && !(b && !c), a || b || c, a && b && c, a || b || !c, a && b || a && c || b && c, a && (b || c),
                (a || b) && (b || c), a && (b != c)};
            for (int i = 0; i < texts.length; i++) {
                RidgeBureau x = new RidgeBureau();
                x.card(0);
                String text = texts[i].replace("A", "child").replace("B", "cleared").replace("C", "guilty");
                Due.rules(x, 0, "keep 7 if " + text);
                for (int what = 0; what < 3; what++) {
                    if ((bits >> what & 1) == 1) {
                        x.tell(0, what);
                    }
                }
                Due.is("kept if " + text + " by " + bits, due[i] ? 7 : 0, x.kept(0, 0));
            }
        }
    }

    private static void noSuch() {
        // the rich past has marks 0 to 2, prints 0 to 2, cards 0 to 3
        for (int n : new int[] {-1, 3, 60, MIN, MAX}) {
            Twins.same("mark or print " + n, Past::rich, x -> {
                Due.outside("verdict", () -> x.verdict(n, 0, 0));
                Due.outside("verdict upon it", () -> x.verdict(0, n, 0));
                Due.outside("why", () -> x.why(n, 0, 0));
                Due.outside("why upon it", () -> x.why(0, n, 0));
            });
        }
        for (int n : new int[] {-1, 4, 16, MIN, MAX}) {
            Twins.same("card " + n, Past::rich, x -> Due.outside("kept", () -> x.kept(n, 0)));
        }
        RidgeBureau x = new RidgeBureau();
        Past.rich(x);
        Due.is("the last mark on the last print, by the first text", 1, x.verdict(2, 2, 1));
        Due.is("by which rule", 0, x.why(2, 2, 1));
        Due.is("the last card", 9, x.kept(3, 3));
    }

    // ---- promise 33

    private static void greatestKept() {
        RidgeBureau x = new RidgeBureau();
        x.days(2);
        x.card(1);
        Due.is("ahead of any rules", 0, x.kept(0, 2));
        Due.rules(x, 2, "need 1;same if grave");
        Due.is("without a keep rule", 0, x.kept(0, 2));
        Due.rules(x, 2, "keep 0");
        Due.is("keep 0", 0, x.kept(0, 2));
        Due.rules(x, 2, "keep 4;keep 9999 if age>1;keep 9998;keep 7");
        Due.is("the greatest", 9998, x.kept(0, 2));
        Due.is("the greatest", 9998, x.kept(0, 3));
        Due.is("the greatest that holds", 9999, x.kept(0, 4));
        Due.rules(x, 2, "keep 5 if age<0;keep 6 if grave or pairs>0 or against>0 or points>0 or class>0");
        Due.is("none holds", 0, x.kept(0, 2));
        Due.rules(x, 2, "keep 3 if not grave and pairs<1 and against<1 and points<1 and class<1");
        Due.is("other facts are 0", 3, x.kept(0, 2));
    }

    /** What was found of a mark just ahead has no part in what holds of a card. */
    private static void otherFactsAreZero() {
        RidgeBureau x = bureau();
        x.card(1);
        x.finger(0, 0, 0);
        Due.rules(x, 2, "doubt if pairs>0;keep 5 if pairs>0 or against>0 or points>0 or class>0 or grave;"
                + "keep 6 if pairs<0 or against<0 or points<0 or class<0 or age<0");
        Due.is("the grave mark has pairs", 1, x.verdict(0, 0, 2));
        Due.is("kept behind it", 0, x.kept(0, 2));
        Due.is("the grave mark has pairs", 1, x.verdict(0, 0, 2));
        Due.is("another mark has pairs", 1, x.verdict(1, 0, 2));
        Due.is("kept behind it", 0, x.kept(0, 2));
        Due.rules(x, 2, "doubt if pairs>0;strike if pairs>0 or against>0 or points>0 or class>0 or grave;"
                + "strike if pairs<0 or against<0 or points<0 or class<0 or age<0");
        x.days(1);
        Due.is("hits", 2, x.count(8));
        Due.is("not struck behind them", -1, x.look(0, 2));
        // nor has what was told of a card a part in what holds of a mark, or of two prints
        for (int what = 0; what < 3; what++) {
            x.tell(0, what);
        }
        Due.rules(x, 3, "same if child or cleared or guilty or not class<9999;keep 7 if child and cleared and guilty");
        Due.is("all is told of the card", 7, x.kept(0, 3));
        Due.is("nothing of the mark", 0, x.verdict(1, 0, 3));
        Due.is("all is told of the card", 7, x.kept(0, 3));
        Due.is("nothing of two prints", 0, x.alike(0, 0, 3));
    }

    /** Texts of 400 bytes, wrong ones and right ones, by turns: each is read and kept whole. */
    private static void longTexts() {
        RidgeBureau x = new RidgeBureau();
        x.card(1);
        String many = "age<1" + " or age>9".repeat(42);
        for (int i = 0; i < 8; i++) {
            String text = "keep " + (i + 1) + " if " + many;
            Due.is("a long text", 1, Due.rules(x, i, text + " ".repeat(400 - text.length())));
            Due.is("kept by it on day " + i, i == 0 ? 1 : 0, x.kept(0, i));
            Due.is("kept by it on day 10", i + 1, x.kept(0, 10));
        }
        Due.is("the first one still", 1, x.kept(0, 0));
        RidgeBureau y = new RidgeBureau();
        y.card(1);
        for (int i = 0; i < 12; i++) {
            Due.write(y, "keep 1 if " + many + "o".repeat(390 - many.length()));
            Due.illegal("a long wrong text", () -> y.rules(0));
        }
        Due.is("a right one behind them", 1, Due.rules(y, 0, "keep 8 if " + many));
        Due.is("kept by it", 8, y.kept(0, 0));
    }

    /** A text of fewer rules, told behind one of more, has those alone. */
    private static void shorterTexts() {
        String[] longs = {"need 1;".repeat(11) + "need 5", "need 1;".repeat(11) + "fingers 9",
            "need 1;".repeat(11) + "keep 9", "same if pairs<1;need 4;keep 3;fingers 8"};
        for (String text : longs) {
            RidgeBureau x = new RidgeBureau();
            Due.print(x, Due.LEFT);
            x.mark(0, 0, 63, 63, false);
            for (int c = 0; c < 2; c++) {
                x.card(c);
                for (int f = 0; f < 3; f++) {
                    x.finger(c, f, 0);
                }
            }
            x.say(0, 0, 0, 0, 1);
            Due.is("rules of the longer one", rulesIn(text), Due.rules(x, 0, text));
            Due.rules(x, 1, "same if pairs<1");
            Due.is("need of the shorter one: 1", true, x.proved(0, 0, 0, 1));
            Due.is("fingers of the shorter one: 3", 0, x.person(1, 1));
            Due.is("keep of the shorter one: none", 0, x.kept(0, 1));
            Due.is("rules of the longer one", rulesIn(text), x.count(6));
            x.days(1);
            Due.is("rules of the shorter one", 1, x.count(6));
            Due.is("no keep rule is in force", -1, x.look(0, 2));
            Due.rules(x, 1, "");
            Due.is("nor by an empty one", false, x.proved(0, 0, 0, 1));
            x.days(1);
            Due.is("no keep rule is in force", -1, x.look(0, 2));
        }
        RidgeBureau x = new RidgeBureau();
        Due.print(x, Due.LEFT);
        x.mark(0, 0, 63, 63, false);
        x.card(0);
        x.finger(0, 0, 0);
        x.say(0, 0, 0, 0, 1);
        Due.rules(x, 0, "same if pairs<1;" + "need 1;".repeat(10) + "need 2");
        Due.is("the 12th rule is the last need rule", false, x.proved(0, 0, 0, 0));
        x.say(1, 0, 0, 0, 1);
        Due.is("two say same", true, x.proved(0, 0, 0, 0));
    }

    private static void toldUpToADay() {
        String[] tags = {"child", "cleared", "guilty"};
        for (int what = 0; what < 3; what++) {
            RidgeBureau x = new RidgeBureau();
            x.card(1);
            x.card(2);
            for (int other = 0; other < 3; other++) {
                x.tell(1, other);
                if (other != what) {
                    x.tell(0, other);
                }
            }
            Due.rules(x, 0, "keep 8 if " + tags[what] + ";keep 5");
            x.days(4);
            Due.is("not told", 5, x.kept(0, 4));
            x.tell(0, what);
            x.days(3);
            int[] due = {5, 5, 8, 8, 8};
            int[] days = {0, 3, 4, 5, MAX};
            for (int i = 0; i < days.length; i++) {
                Due.is("told " + tags[what] + " on day 4, on day " + days[i], due[i], x.kept(0, days[i]));
            }
            Due.is("the other card", 8, x.kept(1, 0));
        }
    }

    private static void agesOfCards() {
        RidgeBureau x = new RidgeBureau();
        x.days(3);
        x.card(1);
        Due.rules(x, 3, "keep 1 if age<0;keep 2 if not age<0 and not age>0;keep 3 if age>0 and age<2;keep 4 if age>1");
        int[] due = {2, 3, 4, 4};
        for (int day = 3; day < 7; day++) {
            Due.is("kept on day " + day, due[day - 3], x.kept(0, day));
        }
        Due.is("on the last day of all", 4, x.kept(0, MAX));
        RidgeBureau y = new RidgeBureau();
        Due.rules(y, 0, "keep 1 if age<0;keep 2 if not age<0");
        y.days(3);
        y.card(1);
        Due.is("the day ahead of that on which it was taken", 1, y.kept(0, 2));
        Due.is("on that day", 2, y.kept(0, 3));
    }

    private static void texts() {
        Edge.of(23, "then: the text is wrong", RuleEdges::whatStandsWhere);
        Edge.ofTerms("RULE: same if C | doubt if C | need NUMBER | fingers NUMBER | keep NUMBER [ if C ]",
                RuleEdges::whatStandsWhere);
        Edge.ofTerms("The first wrong byte: the begin of the first thing that cannot stand there",
                RuleEdges::whatStandsWhere);
        Edge.ofTerms("NUMBER: 1 to 4 digits; need 1 to 6, fingers 1 to 10.", RuleEdges::numbers);
        Edge.ofTerms("(a NUMBER of more digits, or out of its bounds;", RuleEdges::numbers);
        Edge.ofTerms("Words are as long as a to z go on", RuleEdges::words);
        Edge.ofTerms("a word that is none", RuleEdges::words);
        Edge.ofTerms("between all there may be blanks (32), also ahead and behind", RuleEdges::blanks);
        Edge.ofTerms("A text that is empty, or blanks alone, has no RULE.", RuleEdges::blanks);
        Edge.ofTerms("( and not within one another at most 6 deep.", RuleEdges::depths);
        Edge.ofTerms("the ( or not that is a 7th one deep", RuleEdges::depths);
        Edge.ofTerms("of a 13th RULE its first word), or the text's length, if more must come.",
                RuleEdges::twelveRules);
        Edge.ofTerms("RULE { ; RULE }, at most 12", RuleEdges::twelveRules);
        Edge.of(23, "Uses the TAPE up: RULES from a DAY on: how many.", RuleEdges::longTexts);
        Edge.of(23, "RULES from a DAY on: how many.", RuleEdges::shorterTexts);
        Edge.of(23, "IllegalArgumentException: the DAY is not TODAY to 2000", RuleEdges::firstAndLastDay);
        Edge.ofTerms("(today or later, 2000 at most;", RuleEdges::refusedDays);
        Edge.ofTerms("changes nothing but the TAPE, where it is used up, and fault(), where a text is read",
                RuleEdges::refusedTexts);
        Edge.of(23, "UnsupportedOperationException: there are 10.", RuleEdges::aTextTooMany);
        Edge.ofTerms("at most 10 texts", RuleEdges::aTextTooMany);
        Edge.ofTerms("that of the latest such DAY up to it, of several the one that came last; none ahead of any",
                RuleEdges::ofADay);
    }

    private static void verdicts() {
        Edge.of(24, "VERDICT of a MARK upon a PRINT on a DAY", RuleEdges::lessAndMore);
        Edge.ofTerms("FACT < NUMBER | FACT > NUMBER", RuleEdges::lessAndMore);
        Edge.ofTerms("pairs, against: of BEST LAY; points: the MARK's; class: of the PRINT", RuleEdges::zeroes);
        Edge.of(24, "(by the RULES as told now; age may be below 0)", RuleEdges::ages);
        Edge.ofTerms("age: DAYS since the MARK came", RuleEdges::ages);
        Edge.ofTerms("grave: the MARK; other TAGS: no.", RuleEdges::tagsOfMarks);
        Edge.of(25, "WHY.", RuleEdges::firstOfThose);
        Edge.ofTerms("WHY: the first RULE of those that hold (NONE: VERDICT 0).", RuleEdges::firstOfThose);
        Edge.ofTerms("2 SAME, if some same RULE of that DAY holds; else 1 DOUBT, if some doubt RULE holds; else 0.",
                RuleEdges::firstOfThose);
        Edge.ofTerms("C: ALL { or ALL }; ALL: ATOM { and ATOM }; ATOM: not ATOM | ( C ) | TAG",
                RuleEdges::conditions);
        Edge.of(24, "throws IndexOutOfBoundsException", RuleEdges::noSuch);
        Edge.of(25, "throws IndexOutOfBoundsException", RuleEdges::noSuch);
        Edge.of(33, "throws IndexOutOfBoundsException", RuleEdges::noSuch);
        Edge.of(33, "How long a CARD is KEPT by the RULES of a DAY.", RuleEdges::greatestKept);
        Edge.ofTerms("the greatest of all keep RULES that hold (0 without)", RuleEdges::greatestKept);
        Edge.ofTerms("other FACTS 0, grave: no", RuleEdges::otherFactsAreZero);
        Edge.ofTerms("child, cleared, guilty: what was told of it up to that DAY", RuleEdges::toldUpToADay);
        Edge.ofTerms("Of a CARD: age: DAYS since it was taken", RuleEdges::agesOfCards);
    }

    public static void main(String[] args) {
        texts();
        verdicts();
        Edge.end(23, 24, 25, 33);
    }
}
