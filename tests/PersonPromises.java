/** Promises 29 to 32: fingers that are alike, persons, and what is told of cards. */
public final class PersonPromises {
    private static final int MIN = Integer.MIN_VALUE;
    private static final int MAX = Integer.MAX_VALUE;

    /** So many cards, card i under name i; the same print (0, LEFT, of one point) on fingers 0 to 2 of all. */
    private static RidgeBureau bureau(int cards) {
        RidgeBureau x = new RidgeBureau();
        Due.print(x, Due.LEFT);
        Due.print(x, Due.RIGHT);
        Due.print(x, Due.LEFT);
        x.point(0, 20, 20, 0, 0);
        x.point(1, 20, 20, 0, 0);
        x.point(2, 30, 30, 0, 0);
        x.point(2, 40, 40, 1, 0);
        for (int c = 0; c < cards; c++) {
            x.card(c);
            for (int f = 0; f < 3; f++) {
                x.finger(c, f, 0);
            }
        }
        return x;
    }

    private static void promise29() {
        RidgeBureau x = bureau(3);
        Due.is("without rules", 0, x.alike(0, 1, 0));
        Due.rules(x, 0, "same if pairs>0;doubt if pairs<1");
        Due.is("three", 3, x.alike(0, 1, 0));
        Due.is("the other way", 3, x.alike(1, 0, 0));
        Due.is("with itself", 3, x.alike(2, 2, 0));
        Due.is("ahead of the rules", 0, x.alike(0, 1, -1));
        x.finger(1, 0, 1);
        Due.is("another class", 2, x.alike(0, 1, 0));
        x.doubt(1, 0, 2);
        Due.is("a second class does not count", 2, x.alike(0, 1, 0));
        x.finger(1, 0, -1);
        Due.is("missing", 2, x.alike(0, 1, 0));
        Due.is("missing", 2, x.alike(1, 0, 0));
        x.finger(0, 0, -1);
        Due.is("missing on both", 2, x.alike(0, 1, 0));
        x.finger(0, 9, 0);
        x.finger(1, 4, 0);
        Due.is("the same finger of the other hand does not count", 2, x.alike(0, 1, 0));
        Due.outside("card 3", () -> x.alike(0, 3, 0));
        Due.outside("card 3", () -> x.alike(3, 0, 0));
        Due.outside("card -1", () -> x.alike(-1, 0, 0));
        Due.outside("card -1", () -> x.alike(0, -1, 0));
        laidAsMark();
    }

    /** Print 0 (1 point) of the lesser card is laid on print 2 (2 points) of the other, or the other way. */
    private static void laidAsMark() {
        RidgeBureau x = bureau(2);
        x.days(4);
        x.finger(1, 0, 2);
        Due.rules(x, 4, "same if points<2 and against>0 and not grave and age<1 and not child");
        Due.is("the lesser one's points: 2 of the print are within its clear", 1, x.alike(0, 1, 4));
        Due.is("age is 0 on any day", 1, x.alike(0, 1, 900));
        x.finger(0, 0, 2);
        x.finger(1, 0, 0);
        Due.is("now the lesser one has 2", 0, x.alike(1, 0, 4));
        Due.rules(x, 4, "same if points>1 and pairs>0 and class>1 and class<3");
        Due.is("so by its points", 1, x.alike(1, 0, 4));
        Due.rules(x, 4, "doubt if points>0");
        Due.is("doubt is not enough", 0, x.alike(1, 0, 4));
    }

    private static void promise30() {
        RidgeBureau x = bureau(5);
        Due.is("without rules each is its own", 3, x.person(3, 0));
        Due.rules(x, 0, "same if pairs>0;strike if cleared");
        Due.is("three fingers are enough", 0, x.person(3, 0));
        // 2 and 4 have one print, 0 and 2 another; 4 and 0 are one by 2 alone
        for (int f = 0; f < 3; f++) {
            x.finger(1, f, -1);
            x.finger(3, f, f < 2 ? 0 : -1);
            x.finger(2, f + 3, 1);
            x.finger(4, f, -1);
            x.finger(4, f + 3, 1);
        }
        Due.is("none is alike", 1, x.person(1, 0));
        Due.is("two fingers are too few", 3, x.person(3, 0));
        Due.is("one of three fingers", 0, x.person(2, 0));
        Due.is("by another between", 0, x.person(4, 0));
        Due.is("the least of all", 0, x.person(0, 0));
        Due.is("it is not alike itself", 0, x.alike(0, 4, 0));
        x.tell(2, 1);
        x.days(1);
        Due.is("struck", -1, x.person(2, 1));
        Due.is("on the day ahead it was not", 0, x.person(2, 0));
        Due.is("what is struck lies not between", 4, x.person(4, 1));
        Due.is("but on the day ahead", 0, x.person(4, 0));
        Due.is("struck ahead of it", -1, x.person(2, 9));
        x.card(9);
        Due.is("not taken then", -1, x.person(5, 0));
        Due.is("taken", 5, x.person(5, 1));
        Due.is("ahead of all", -1, x.person(0, -1));
        Due.is("ahead of all", -1, x.person(0, MIN));
        Due.is("behind all", 5, x.person(5, MAX));
        Due.outside("card 6", () -> x.person(6, 0));
        Due.outside("card -1", () -> x.person(-1, 0));
        fingersRules();
        lateJoins();
    }

    private static void fingersRules() {
        RidgeBureau x = bureau(2);
        Due.rules(x, 0, "same if pairs>0;fingers 3");
        Due.rules(x, 1, "same if pairs>0;fingers 1;fingers 4");
        Due.rules(x, 2, "fingers 4;same if pairs>0;fingers 1");
        Due.is("three by a rule", 0, x.person(1, 0));
        Due.is("four by the last rule", 1, x.person(1, 1));
        Due.is("one by the last rule", 0, x.person(1, 2));
        x.finger(1, 2, -1);
        Due.is("two of three", 1, x.person(1, 0));
        Due.is("two of one", 0, x.person(1, 2));
    }

    /** 0 and 1 have nothing in common, nor 2 and 3, but 3 has with both 1 and 2, and 4 with both 0 and 3. */
    private static void lateJoins() {
        RidgeBureau x = bureau(0);
        int[][] fingers = {{0}, {1}, {2}, {1, 2, 3}, {0, 3}};
        for (int c = 0; c < 5; c++) {
            x.card(7);
            for (int f : fingers[c]) {
                x.finger(c, f, 0);
            }
        }
        Due.rules(x, 0, "fingers 1;same if pairs>0");
        for (int c = 0; c < 5; c++) {
            Due.is("person of " + c, 0, x.person(c, 0));
        }
        Due.is("persons", 1, x.persons(0, false));
        x.finger(4, 0, -1);
        Due.is("without that", 1, x.person(4, 0));
        Due.is("persons", 2, x.persons(0, false));
    }

    private static void promise31() {
        RidgeBureau x = bureau(4);
        Due.is("each its own", 4, x.persons(0, false));
        Due.is("no second names", 0, x.persons(0, true));
        Due.rules(x, 0, "same if pairs>0;strike if cleared");
        Due.is("all one", 1, x.persons(0, false));
        Due.is("under four names", 1, x.persons(0, true));
        Due.is("ahead of all", 0, x.persons(-1, false));
        for (int f = 0; f < 3; f++) {
            x.finger(2, f, 1);
            x.finger(3, f, 1);
        }
        Due.is("two", 2, x.persons(0, false));
        Due.is("both with second names", 2, x.persons(0, true));
        x.tell(0, 1);
        x.days(1);
        Due.is("two still", 2, x.persons(1, false));
        Due.is("the name of the struck one is out", 1, x.persons(1, true));
        Due.is("on the day ahead it was not", 2, x.persons(0, true));
        RidgeBureau y = bureau(1);
        y.card(0);
        for (int f = 0; f < 3; f++) {
            y.finger(1, f, 0);
        }
        Due.rules(y, 0, "same if pairs>0");
        Due.is("one", 1, y.persons(0, false));
        Due.is("under one name", 0, y.persons(0, true));
        y.days(1);
        y.card(4);
        for (int f = 0; f < 3; f++) {
            y.finger(2, f, 0);
        }
        Due.is("another name from today on", 1, y.persons(1, true));
        Due.is("not yet then", 0, y.persons(0, true));
        Due.is("without cards", 0, new RidgeBureau().persons(0, false));
    }

    private static void promise32() {
        RidgeBureau x = bureau(2);
        Due.rules(x, 0, "keep 10;keep 20 if child");
        x.days(2);
        Due.is("not told", true, x.tell(0, 0));
        Due.is("told", false, x.tell(0, 0));
        Due.is("of the other card", true, x.tell(1, 0));
        Due.is("something else", true, x.tell(0, 1));
        Due.is("something else", true, x.tell(0, 2));
        x.days(1);
        Due.is("told for ever", false, x.tell(0, 0));
        Due.is("the first telling stays", 20, x.kept(0, 2));
        Due.is("not ahead of it", 10, x.kept(0, 1));
        Due.illegal("what 3", () -> x.tell(0, 3));
        Due.illegal("what -1", () -> x.tell(0, -1));
        Due.illegal("what MIN", () -> x.tell(0, MIN));
        Due.outside("no such card is told ahead", () -> x.tell(2, 3));
        Due.outside("card -1", () -> x.tell(-1, 0));
    }

    public static void main(String[] args) {
        promise29();
        promise30();
        promise31();
        promise32();
        Due.end();
    }
}
