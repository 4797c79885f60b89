/** Promises 23 to 25 and 33: texts of rules, verdicts by them, and how long cards are kept. */
public final class RulePromises {
    private static final int MIN = Integer.MIN_VALUE;
    private static final int MAX = Integer.MAX_VALUE;

    private static void goodTexts() {
        Due.goodRules("", 0);
        Due.goodRules("    ", 0);
        Due.goodRules("same if grave", 1);
        Due.goodRules("  same   if\u0020 pairs <  3 or grave  ", 1);
        Due.goodRules("need1;fingers10;keep9999;keep 0000if(age>0)or child", 4);
        Due.goodRules("need 0006", 1);
        Due.goodRules("doubt if not(cleared and guilty)or(class<9999)", 1);
        Due.goodRules("strike if age>0and child", 1);
        Due.goodRules("same if not not not not not not grave", 1);
        Due.goodRules("same if ((((((grave))))))", 1);
        Due.goodRules("same if (not(not(not grave))) and ((((((points>1))))))", 1);
        Due.goodRules("need 1;".repeat(11) + "need 1", 12);
    }

    private static void badWords() {
        Due.badRules("x", 0);
        Due.badRules(" same", 5);
        Due.badRules("samex if grave", 0);
        Due.badRules("sam if grave", 0);
        Due.badRules("samez if grave", 0);
        Due.badRules("samea if grave", 0);
        Due.badRules("asame if grave", 0);
        Due.badRules("same{ if grave", 4);
        Due.badRules("same` if grave", 4);
        Due.badRules("same: if grave", 4);
        Due.badRules("same/ if grave", 4);
        Due.badRules("Same if grave", 0);
        Due.badRules("same grave", 5);
        Due.badRules("sameif grave", 0);
        Due.badRules("same if", 7);
        Due.badRules("same if ", 8);
        Due.badRules("same if grav", 8);
        Due.badRules("same if graves", 8);
        Due.badRules("same if if", 8);
        Due.badRules("same if grave child", 14);
        Due.badRules("same if grave and", 17);
        Due.badRules("same if grave and or child", 18);
        Due.badRules("same if or grave", 8);
        Due.badRules("same if notgrave", 8);
        Due.badRules("same if not", 11);
        Due.badRules("same if not;", 11);
        Due.badRules("grave", 0);
        Due.badRules("if grave", 0);
        Due.badRules("need 1 if grave", 7);
        Due.badRules("fingers 1 if grave", 10);
        Due.badRules("keep if grave", 5);
        Due.badRules("keep 1 if", 9);
        Due.badRules("keep 1 of grave", 7);
        Due.badRules("keep 1 grave", 7);
        Due.badRules("strike grave", 7);
    }

    private static void badNumbersAndSigns() {
        Due.badRules("need", 4);
        Due.badRules("need 0", 5);
        Due.badRules("need 7", 5);
        Due.badRules("need 00001", 5);
        Due.badRules("need x", 5);
        Due.badRules("need -1", 5);
        Due.badRules("fingers 0", 8);
        Due.badRules("fingers 11", 8);
        Due.badRules("keep 10000", 5);
        Due.badRules("keep 99999999999999999999", 5);
        Due.badRules("keep 1 2", 7);
        Due.badRules("same if pairs", 13);
        Due.badRules("same if pairs 3", 14);
        Due.badRules("same if pairs = 3", 14);
        Due.badRules("same if pairs<", 14);
        Due.badRules("same if pairs<>3", 14);
        Due.badRules("same if pairs<x", 14);
        Due.badRules("same if pairs<10000", 14);
        Due.badRules("same if pairs<3 4", 16);
        Due.badRules("same if grave < 3", 14);
        Due.badRules("same if 3<pairs", 8);
        Due.badRules("same if pairs<3child", 15);
        Due.badRules("need 1" + (char) 255, 6);
        Due.badRules("need 1" + (char) 0, 6);
        Due.badRules("need\t1", 4);
        Due.badRules(";", 0);
        Due.badRules("need 1;", 7);
        Due.badRules("need 1; ", 8);
        Due.badRules("need 1;;need 1", 7);
        Due.badRules("need 1 need 1", 7);
        Due.badRules("need 1:need 1", 6);
    }

    private static void badDepths() {
        Due.badRules("same if (grave", 14);
        Due.badRules("same if (grave;", 14);
        Due.badRules("same if (grave child)", 15);
        Due.badRules("same if grave)", 13);
        Due.badRules("same if ()", 9);
        Due.badRules("same if (grave))", 15);
        Due.badRules("same if ((((((( grave", 14);
        Due.badRules("same if not not not not not not not grave", 32);
        Due.badRules("same if not not not (not not (not grave))", 29);
        Due.badRules("same if ((((((not grave))))))", 14);
        Due.badRules("same if (((((( x", 15);
        Due.badRules("need 1;".repeat(12), 84);
        Due.badRules("need 1;".repeat(12) + "  ", 86);
        Due.badRules("need 1;".repeat(12) + " need 1", 85);
        Due.badRules("need 1;".repeat(12) + " x", 85);
        Due.badRules("need 1;".repeat(11) + "need 1 x", 84);
    }

    /** What lies behind the text on the tape is no part of it. */
    private static void cutTexts() {
        RidgeBureau x = new RidgeBureau();
        Due.write(x, "need 10");
        x.end(6);
        Due.is("cut in a number", 1, x.rules(0));
        Due.write(x, "keep 9 if graves");
        x.end(15);
        Due.is("cut in a word", 1, x.rules(0));
        Due.write(x, "keep 9 if grave");
        x.end(14);
        Due.illegal("cut in a word", () -> x.rules(0));
        Due.is("a word that is none", 10, x.fault());
        Due.is("400 bytes", 1, Due.rules(x, 0, " ".repeat(394) + "need 6"));
        Due.is("400 bytes", 1, Due.rules(x, 0, "keep 9 if" + " ".repeat(386) + "grave"));
        Due.is("many words", 1, Due.rules(x, 0, "keep 9 if child" + " or child".repeat(42) + "       "));
    }

    private static void promise23() {
        goodTexts();
        cutTexts();
        badWords();
        badNumbersAndSigns();
        badDepths();
        RidgeBureau x = new RidgeBureau();
        x.days(5);
        for (int day : new int[] {4, -1, 2001, MIN, MAX}) {
            Due.write(x, "need 1");
            Due.illegal("rules from " + day, () -> x.rules(day));
            Due.is("the tape is used up", false, x.end(1));
        }
        Due.is("texts", 0, x.count(5));
        Due.is("from 2000", 1, Due.rules(x, 2000, "need 1"));
        Due.is("from today", 2, Due.rules(x, 5, "need 1;need 2"));
        Due.is("rules of today", 2, x.count(6));
        Due.is("from today, later told", 3, Due.rules(x, 5, "need 1;need 2;keep 99"));
        Due.is("rules of today", 3, x.count(6));
        Due.is("from tomorrow", 1, Due.rules(x, 6, "keep 99"));
        Due.is("from today, told behind it", 0, Due.rules(x, 5, ""));
        Due.is("rules of today", 0, x.count(6));
        x.days(1);
        Due.is("rules of the next day", 1, x.count(6));
        x.days(7);
        Due.is("and of later days", 1, x.count(6));
        for (int i = 5; i < 10; i++) {
            Due.is("rules", 1, Due.rules(x, 100, "need 1"));
        }
        Due.write(x, "need 1");
        Due.unsupported("an 11th text", () -> x.rules(100));
        Due.is("the tape is used up", false, x.end(1));
        Due.write(x, "need 0");
        Due.illegal("a wrong text is told ahead of there being 10", () -> x.rules(100));
        Due.is("its fault", 5, x.fault());
        Due.write(x, "need 1");
        Due.illegal("a wrong day, too", () -> x.rules(12));
        Due.is("texts", 10, x.count(5));
    }

    /** The verdict of a grave mark (0) and one that is not (1), each of 2 points, 1 of which pairs on print 0 (LEFT). */
    private static RidgeBureau bureau() {
        RidgeBureau x = new RidgeBureau();
        Due.print(x, Due.LEFT);
        Due.print(x, Due.ODD);
        x.point(0, 20, 20, 0, 0);
        for (int m = 0; m < 2; m++) {
            x.days(m * 3);
            x.mark(0, 0, 63, 63, m == 0);
            x.spot(m, 20, 20, 0, 0);
            x.spot(m, 30, 30, 0, 0);
        }
        return x;
    }

    private static void verdictBy(String condition, int due0, int due1) {
        RidgeBureau x = bureau();
        Due.rules(x, 3, "same if " + condition);
        Due.is("of the grave mark if " + condition, 2 * due0, x.verdict(0, 0, 5));
        Due.is("of the other mark if " + condition, 2 * due1, x.verdict(1, 0, 5));
    }

    private static void promise24() {
        verdictBy("grave", 1, 0);
        verdictBy("not grave", 0, 1);
        verdictBy("child or cleared or guilty", 0, 0);
        verdictBy("pairs>0 and pairs<2", 1, 1);
        verdictBy("pairs>1", 0, 0);
        verdictBy("pairs<1", 0, 0);
        verdictBy("against>0 and against<2", 1, 1);
        verdictBy("points>1 and points<3", 1, 1);
        verdictBy("class>1 and class<3", 1, 1);
        verdictBy("age>4 and age<6", 1, 0);
        verdictBy("age>1 and age<3", 0, 1);
        // and binds more than or; not binds what is behind it alone
        verdictBy("grave or child and child", 1, 0);
        verdictBy("child and child or grave", 1, 0);
        verdictBy("(grave or not grave) and child", 0, 0);
        verdictBy("not grave and child", 0, 0);
        verdictBy("not (grave and child)", 1, 1);
        verdictBy("not child and grave", 1, 0);
        verdictBy("not not grave", 1, 0);
        verdictBy("not(not(not grave or child))", 0, 1);
        verdictBy("child or child or grave", 1, 0);
        verdictBy("points>1 and pairs>0 and grave", 1, 0);
        RidgeBureau x = bureau();
        Due.is("without rules", 0, x.verdict(0, 0, 3));
        Due.rules(x, 4, "doubt if pairs>0;same if age>6");
        Due.rules(x, 8, "same if class>6 ; doubt if age<1");
        Due.is("ahead of any rules", 0, x.verdict(0, 0, 3));
        Due.is("doubt", 1, x.verdict(0, 0, 4));
        Due.is("doubt on the last day", 1, x.verdict(1, 0, 7));
        Due.is("same", 2, x.verdict(0, 0, 7));
        Due.is("by the rules from 8 on", 0, x.verdict(0, 0, 8));
        Due.is("upon the other print", 2, x.verdict(0, 1, 8));
        Due.is("long after", 2, x.verdict(0, 1, MAX));
        Due.is("long ahead", 0, x.verdict(0, 1, MIN));
        RidgeBureau early = bureau();
        early.rules(3);
        Due.is("age below 0", 0, early.verdict(1, 0, 1));
        ageBelowZero();
        Due.outside("mark 2", () -> x.verdict(2, 0, 0));
        Due.outside("mark -1", () -> x.verdict(-1, 0, 0));
        Due.outside("print 2", () -> x.verdict(0, 2, 0));
        Due.outside("print -1", () -> x.verdict(0, -1, 0));
    }

    private static void ageBelowZero() {
        RidgeBureau x = new RidgeBureau();
        Due.print(x, Due.ARCH);
        Due.rules(x, 0, "same if age<0000;doubt if age>0");
        x.days(2);
        x.mark(0, 0, 1, 1, true);
        Due.is("two days ahead of it", 2, x.verdict(0, 0, 0));
        Due.is("on its day", 0, x.verdict(0, 0, 2));
        Due.is("behind it", 1, x.verdict(0, 0, 3));
    }

    private static void promise25() {
        RidgeBureau x = bureau();
        Due.is("without rules", -1, x.why(0, 0, 3));
        Due.rules(x, 3, "need 1;doubt if child;doubt if pairs>0;same if age>6;doubt if pairs>0;same if age>5");
        Due.is("the first doubt rule that holds", 2, x.why(0, 0, 3));
        Due.is("the first same rule that holds", 5, x.why(0, 0, 6));
        Due.is("the first same rule that holds", 3, x.why(0, 0, 7));
        Due.is("no rule that holds", -1, x.why(0, 1, 3));
        Due.is("ahead of the rules", -1, x.why(0, 0, 2));
        Due.outside("mark 2", () -> x.why(2, 0, 0));
        Due.outside("mark -1", () -> x.why(-1, 0, 0));
        Due.outside("print 2", () -> x.why(0, 2, 0));
        Due.outside("print -1", () -> x.why(0, -1, 0));
    }

    private static void promise33() {
        RidgeBureau x = new RidgeBureau();
        x.days(1);
        x.card(5);
        Due.is("without rules", 0, x.kept(0, 1));
        Due.rules(x, 1, "keep 3;keep 7 if guilty;keep 5 if age<2 and cleared;keep 6 if pairs>0 or grave");
        Due.rules(x, 4, "need 3");
        Due.is("kept", 3, x.kept(0, 1));
        x.tell(0, 1);
        Due.is("kept by the greatest that holds", 5, x.kept(0, 1));
        Due.is("kept by age", 5, x.kept(0, 2));
        Due.is("kept by age", 3, x.kept(0, 3));
        Due.is("by other rules", 0, x.kept(0, 4));
        Due.is("ahead of the rules", 0, x.kept(0, 0));
        x.days(1);
        x.tell(0, 2);
        Due.is("what was told then", 5, x.kept(0, 1));
        Due.is("what was told today", 7, x.kept(0, 2));
        Due.outside("card 1", () -> x.kept(1, 0));
        Due.outside("card -1", () -> x.kept(-1, 0));
        RidgeBureau y = new RidgeBureau();
        y.card(5);
        Due.rules(y, 0, "keep 1 if child;keep 2 if cleared;keep 4 if guilty and not child;keep 9 if points>0 or class>0");
        int[] due = {1, 2, 2};
        for (int what = 0; what < 3; what++) {
            y.tell(0, what);
            Due.is("kept by what was told", due[what], y.kept(0, 0));
        }
    }

    public static void main(String[] args) {
        promise23();
        promise24();
        promise25();
        promise33();
        Due.end();
    }
}
