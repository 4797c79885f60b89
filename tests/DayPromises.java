/** Promises 34, 35, 37, 38, 40 and 41: the desk, the days, hits and rows. */
public final class DayPromises {
    private static final int MIN = Integer.MIN_VALUE;
    private static final int MAX = Integer.MAX_VALUE;

    /** So many marks without points, and cards with fingers 0 and 1 on print 0; each comparison is a hit. */
    private static RidgeBureau bureau(boolean[] graves, int cards) {
        RidgeBureau x = new RidgeBureau();
        Due.print(x, Due.ARCH);
        Due.print(x, Due.LEFT);
        for (boolean grave : graves) {
            x.mark(0, 0, 63, 63, grave);
        }
        for (int c = 0; c < cards; c++) {
            x.card(c);
            x.finger(c, 1, 0);
            x.finger(c, 0, 0);
        }
        Due.rules(x, 0, "doubt if pairs<9");
        return x;
    }

    private static void hit(RidgeBureau x, int n, int... due) {
        for (int what = 0; what < due.length; what++) {
            Due.is("hit " + n + ", " + what, due[what], x.hit(n, what));
        }
    }

    private static void promise34() {
        RidgeBureau x = bureau(new boolean[] {false}, 8);
        for (int n : new int[] {-1, 61, MIN, MAX}) {
            Due.illegal("desk", () -> x.desk(n));
        }
        Due.is("at first", 10, x.count(11));
        x.days(1);
        Due.is("compared", 10, x.count(9));
        x.desk(0);
        Due.is("desk", 0, x.count(11));
        x.days(3);
        Due.is("compared", 10, x.count(9));
        x.desk(1);
        x.days(3);
        Due.is("compared", 13, x.count(9));
        x.desk(60);
        Due.is("desk", 60, x.count(11));
        x.days(1);
        Due.is("compared, all of them", 16, x.count(9));
        Due.is("left", 0, x.left(0));
    }

    private static void order() {
        RidgeBureau x = bureau(new boolean[] {false, true, false, true}, 2);
        x.desk(5);
        Due.is("today", 1, x.days(1));
        int[][] due = {{1, 0, 0}, {1, 0, 1}, {1, 1, 0}, {1, 1, 1}, {3, 0, 0}};
        Due.is("hits", 5, x.count(8));
        for (int i = 0; i < due.length; i++) {
            hit(x, i, due[i][0], due[i][1], due[i][2], 1, 0, 1);
        }
        x.days(1);
        hit(x, 5, 3, 0, 1, 1, 0, 2);
        hit(x, 8, 0, 0, 0, 1, 0, 2);
        hit(x, 9, 0, 0, 1, 1, 0, 2);
        // a new grave mark comes first, and what it has left goes on ahead of the others
        Due.is("mark", 4, x.mark(0, 0, 1, 1, true));
        x.days(1);
        hit(x, 10, 4, 0, 0, 1, 0, 3);
        hit(x, 14, 0, 1, 0, 1, 0, 3);
        x.finger(0, 1, 1);
        x.finger(1, 0, 0);
        x.days(1);
        hit(x, 15, 1, 0, 1, 1, 0, 4);
        hit(x, 16, 3, 0, 1, 1, 0, 4);
        hit(x, 17, 4, 0, 1, 1, 0, 4);
        hit(x, 18, 0, 0, 1, 1, 0, 4);
        hit(x, 19, 0, 1, 1, 1, 0, 4);
        Due.is("comparisons", 20, x.count(9));
    }

    private static void provedOnes() {
        RidgeBureau x = bureau(new boolean[] {true, false}, 2);
        Due.rules(x, 1, "same if pairs<9;need 2");
        Due.rules(x, 3, "same if pairs<9;need 3");
        x.desk(1);
        x.say(0, 0, 1, 1, 1);
        x.say(1, 0, 1, 1, 1);
        Due.is("not proved today, but tomorrow", false, x.proved(0, 1, 1, 0));
        x.days(1);
        hit(x, 0, 1, 0, 0, 2, 0, 1);
        Due.is("left of the proved mark", 4, x.left(0));
        x.say(2, 0, 1, 1, 0);
        x.days(1);
        hit(x, 1, 0, 0, 0, 2, 0, 2);
        x.say(2, 0, 1, 1, 2);
        x.days(1);
        hit(x, 2, 0, 0, 1, 2, 0, 3);
        x.say(2, 0, 1, 1, 1);
        x.days(1);
        hit(x, 3, 1, 0, 1, 2, 0, 4);
        x.finger(1, 1, -1);
        x.days(1);
        hit(x, 4, 0, 1, 0, 2, 0, 5);
        x.finger(1, 1, 0);
        x.days(1);
        hit(x, 5, 1, 1, 0, 2, 0, 6);
        // proved upon a finger of a card that is no longer in the file
        Due.rules(x, 7, "same if pairs<9;need 3;strike if cleared");
        x.tell(1, 1);
        x.days(1);
        hit(x, 6, 1, 1, 1, 2, 0, 7);
        Due.is("struck", 7, x.look(1, 2));
        x.finger(0, 5, 1);
        x.days(1);
        hit(x, 7, 0, 0, 5, 2, 0, 8);
    }

    private static void striking() {
        RidgeBureau x = new RidgeBureau();
        Due.print(x, Due.ARCH);
        x.mark(0, 0, 5, 5, false);
        for (int c = 0; c < 4; c++) {
            x.card(c);
            x.finger(c, 0, 0);
        }
        Due.rules(x, 0, "keep 2;keep 4 if guilty;strike if child and age>0");
        Due.rules(x, 6, "keep 9 if guilty");
        Due.rules(x, 7, "strike if age>9");
        x.tell(1, 0);
        x.tell(2, 2);
        x.tell(3, 2);
        Due.is("in the file", 4, x.count(3));
        x.days(1);
        Due.is("strike rules", 1, x.look(1, 2));
        Due.is("the desk comes first", 4, x.count(9));
        x.days(1);
        Due.is("age 2 of 2", -1, x.look(0, 2));
        x.days(1);
        Due.is("age 3 of 2", 3, x.look(0, 2));
        x.days(1);
        Due.is("age 4 of 4", -1, x.look(2, 2));
        Due.is("in the file", 2, x.count(3));
        x.card(9);
        Due.is("none left of struck ones", 0, x.left(0));
        x.finger(0, 1, 0);
        Due.is("nor any more", 0, x.left(0));
        x.days(1);
        Due.is("age 5 of 4", 5, x.look(2, 2));
        Due.is("age 5 of 4", 5, x.look(3, 2));
        Due.is("age 1 of 2", -1, x.look(4, 2));
        x.days(1);
        Due.is("a keep rule that does not hold", 6, x.look(4, 2));
        Due.is("comparisons", 4, x.count(9));
        x.card(9);
        x.days(9);
        Due.is("without keep rules", -1, x.look(5, 2));
        x.days(1);
        Due.is("by a strike rule", 16, x.look(5, 2));
        Due.is("the day stays", 3, x.look(0, 2));
    }

    private static void promise35() {
        order();
        provedOnes();
        striking();
        RidgeBureau x = new RidgeBureau();
        for (int n : new int[] {-1, 41, MIN, MAX}) {
            Due.illegal("days", () -> x.days(n));
        }
        Due.is("none", 0, x.days(0));
        for (int i = 1; i < 50; i++) {
            Due.is("days", 40 * i, x.days(40));
        }
        Due.is("days", 1999, x.days(39));
        Due.is("as far as today may go", 2000, x.days(40));
        Due.is("no further", 2000, x.days(40));
        Due.is("none", 2000, x.days(0));
        Due.is("today", 2000, x.count(0));
        x.card(1);
        Due.rules(x, 2000, "strike if age<5");
        x.days(40);
        Due.is("no day ends any more", -1, x.look(0, 2));
    }

    private static void promise37() {
        RidgeBureau x = bureau(new boolean[] {false}, 1);
        x.point(1, 20, 20, 0, 0);
        x.point(1, 30, 30, 0, 0);
        x.spot(0, 20, 20, 0, 0);
        x.spot(0, 30, 30, 0, 0);
        x.finger(0, 3, 1);
        Due.rules(x, 2, "same if pairs>1;need 1");
        x.finger(0, 0, -1);
        x.desk(1);
        Due.noSuch("hit 0", () -> x.hit(0, 0));
        x.days(2);
        Due.is("hits", 2, x.count(8));
        hit(x, 0, 0, 0, 1, 1, 0, 1);
        hit(x, 1, 0, 0, 3, 2, 2, 2);
        x.slack(0);
        x.point(1, 5, 5, 0, 0);
        x.finger(0, 3, -1);
        hit(x, 1, 0, 0, 3, 2, 2, 2);
        Due.noSuch("hit 2", () -> x.hit(2, 0));
        Due.noSuch("hit -1", () -> x.hit(-1, 0));
        Due.noSuch("hit MAX", () -> x.hit(MAX, 0));
        Due.noSuch("what 6", () -> x.hit(0, 6));
        Due.noSuch("what -1", () -> x.hit(0, -1));
        x.finger(0, 4, 0);
        x.days(1);
        Due.is("a comparison without a verdict is no hit", 2, x.count(8));
        Due.is("but counts", 3, x.count(9));
        mostHits();
    }

    private static void mostHits() {
        RidgeBureau x = bureau(new boolean[] {false, false, false, false, false, false, false}, 16);
        x.desk(60);
        Due.is("today", 4, x.days(4));
        Due.is("comparisons", 224, x.count(9));
        Due.is("at most 200 are kept", 200, x.count(8));
        hit(x, 199, 6, 3, 1, 1, 0, 4);
        Due.is("hits of a card", 14, x.look(3, 5));
        Due.is("hits of a card", 12, x.look(4, 5));
        Due.noSuch("hit 200", () -> x.hit(200, 0));
    }

    private static void promise38() {
        RidgeBureau x = bureau(new boolean[] {false, false}, 3);
        Due.is("left", 6, x.left(0));
        x.desk(4);
        x.days(1);
        Due.is("left", 2, x.left(0));
        Due.is("left of the other", 6, x.left(1));
        x.finger(0, 7, 0);
        Due.is("one more", 3, x.left(0));
        x.finger(0, 0, 1);
        Due.is("another print", 4, x.left(0));
        x.finger(0, 0, 1);
        x.finger(0, 0, 0);
        Due.is("the first one again", 4, x.left(0));
        x.finger(0, 1, -1);
        Due.is("missing", 4, x.left(0));
        x.finger(0, 1, 0);
        Due.is("no longer missing", 5, x.left(0));
        x.finger(1, 1, 0);
        Due.is("the same print", 5, x.left(0));
        x.point(0, 1, 1, 1, 1);
        x.spot(0, 1, 1, 1, 1);
        Due.is("points change nothing", 5, x.left(0));
        Due.rules(x, 1, "strike if cleared");
        x.tell(0, 1);
        x.desk(0);
        x.days(1);
        Due.is("without the struck card's", 2, x.left(0));
        Due.outside("mark 2", () -> x.left(2));
        Due.outside("mark -1", () -> x.left(-1));
    }

    private static void promise40() {
        RidgeBureau x = bureau(new boolean[] {false}, 4);
        Due.noSuch("row 0 of none", () -> x.tear(0, 1));
        x.desk(2);
        x.days(1);
        Due.noSuch("row 2 of 2", () -> x.tear(2, 1));
        Due.is("torn", 5, x.tear(1, 5));
        Due.is("as kept", 5, x.hit(1, 4));
        Due.is("torn again", 6, x.tear(1, 3));
        Due.is("the other", 0, x.hit(0, 4));
        Due.is("by any mask", -7, x.tear(1, -1));
        Due.is("by any mask", MAX ^ 6, x.tear(1, MIN));
        x.days(3);
        Due.is("hits", 8, x.count(8));
        Due.is("row 0 is the oldest of 6", 9, x.tear(0, 9));
        Due.is("hit 2", 9, x.hit(2, 4));
        Due.is("row 5 is the latest", 4, x.tear(5, 4));
        Due.is("hit 7", 4, x.hit(7, 4));
        Due.is("no other fact is torn", 7, x.hit(7, 0) + x.hit(7, 1) + x.hit(7, 5));
        for (int i : new int[] {6, -1, MIN, MAX}) {
            Due.noSuch("row " + i, () -> x.tear(i, 1));
        }
    }

    private static void promise41() {
        RidgeBureau x = bureau(new boolean[] {false}, 5);
        Due.is("of no rows", -1, x.check());
        x.desk(3);
        x.days(1);
        Due.is("of whole rows", -1, x.check());
        x.tear(2, 0);
        Due.is("torn by nothing", -1, x.check());
        x.tear(2, 1);
        Due.is("the torn one", 2, x.check());
        x.tear(1, 8);
        Due.is("the first", 1, x.check());
        x.days(1);
        Due.is("the first still", 1, x.check());
        x.tear(1, 8);
        Due.is("the second", 2, x.check());
        x.days(1);
        Due.is("rows 3 to 8: hit 2 is none any more", -1, x.check());
        x.tear(0, 2);
        Due.is("the oldest of 6", 0, x.check());
        x.desk(1);
        x.days(1);
        Due.is("hit 3 is none any more", -1, x.check());
        x.tear(5, 2);
        Due.is("the latest", 5, x.check());
        RidgeBureau y = bureau(new boolean[] {false}, 1);
        y.point(0, 20, 20, 0, 0);
        y.spot(0, 20, 20, 0, 0);
        y.days(1);
        Due.is("pairs", 1, y.hit(0, 4));
        y.point(0, 30, 30, 0, 0);
        y.spot(0, 30, 30, 0, 0);
        Due.is("pairs now", 2, y.lay(0, 0, 0));
        Due.is("pairs as they were on that day", -1, y.check());
        y.tear(0, 3);
        Due.is("torn to what they are now", 2, y.hit(0, 4));
        Due.is("torn", 0, y.check());
    }

    public static void main(String[] args) {
        promise34();
        promise35();
        promise37();
        promise38();
        promise40();
        promise41();
        Due.end();
    }
}
