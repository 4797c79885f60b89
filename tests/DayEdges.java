/** Promises 34, 35, 37, 38, 40 and 41 on their edges: the desk, the days, hits and rows. */
public final class DayEdges {
    private static final int MIN = Integer.MIN_VALUE;
    private static final int MAX = Integer.MAX_VALUE;

    /** So many marks without points (bit m of graves: mark m is grave); cards with an arch on so many fingers each. */
    private static RidgeBureau bureau(int marks, int graves, int... fingersOfCards) {
        RidgeBureau x = new RidgeBureau();
        Due.print(x, Due.ARCH);
        for (int m = 0; m < marks; m++) {
            x.mark(0, 0, 63, 63, (graves >> m & 1) == 1);
        }
        for (int c = 0; c < fingersOfCards.length; c++) {
            x.card(c);
            for (int f = fingersOfCards[c] - 1; f >= 0; f--) {
                x.finger(c, f, 0);
            }
        }
        return x;
    }

    private static final String EACH_IS_A_HIT = "doubt if pairs<1";

    private static void hit(RidgeBureau x, int n, int... due) {
        for (int what = 0; what < due.length; what++) {
            Due.is("hit " + n + ", " + what, due[what], x.hit(n, what));
        }
    }

    private static void passDays(RidgeBureau x, int days) {
        for (int left = days; left > 0; left -= 40) {
            x.days(Math.min(left, 40));
        }
    }

    // ---- promise 34

    private static void deskBounds() {
        RidgeBureau x = new RidgeBureau();
        for (int n : new int[] {0, 1, 59, 60}) {
            x.desk(n);
            Due.is("desk", n, x.count(11));
        }
        for (int n : new int[] {-1, 61, MIN, MAX}) {
            Twins.same("desk " + n, Past::rich, y -> Due.illegal("desk", () -> y.desk(n)));
        }
    }

    /** 66 comparisons could be made: so many a day are. */
    private static void comparisonsADay() {
        for (int desk : new int[] {0, 1, 10, 59, 60}) {
            RidgeBureau x = bureau(3, 0, 10, 10, 2);
            if (desk != 10) {
                x.desk(desk);
            }
            int done = 0;
            for (int day = 1; day <= 8; day++) {
                x.days(1);
                done = Math.min(66, done + desk);
                Due.is("desk " + desk + ", compared up to day " + day, done, x.count(9));
                int left = x.left(0) + x.left(1) + x.left(2);
                Due.is("desk " + desk + ", left on day " + day, 66 - done, left);
            }
            Due.is("no rules, no hits", 0, x.count(8));
        }
    }

    /** One less, as many, and one more than a mark, or all, have left. */
    private static void justEnough() {
        for (int desk = 2; desk <= 7; desk++) {
            RidgeBureau x = bureau(2, 0, 2, 1);
            x.desk(desk);
            x.days(1);
            Due.is("compared by " + desk, Math.min(desk, 6), x.count(9));
            Due.is("left of mark 0", Math.max(0, 3 - desk), x.left(0));
            Due.is("left of mark 1", Math.min(3, Math.max(0, 6 - desk)), x.left(1));
            x.days(1);
            Due.is("compared by " + desk + " in two days", Math.min(2 * desk, 6), x.count(9));
        }
    }

    // ---- promise 35: how many days

    private static void manyDays() {
        for (int n : new int[] {-1, 41, MIN, MAX}) {
            Twins.same("days " + n, Past::rich, x -> Due.illegal("days", () -> x.days(n)));
        }
        Twins.same("days 0", Past::rich, x -> Due.is("days", 3, x.days(0)));
        RidgeBureau x = new RidgeBureau();
        Due.is("none", 0, x.days(0));
        Due.is("one", 1, x.days(1));
        Due.is("39", 40, x.days(39));
        Due.is("40", 80, x.days(40));
        Due.is("today", 80, x.count(0));
    }

    private static void lastDay() {
        for (int ahead : new int[] {1959, 1960, 1961, 1998, 1999, 2000}) {
            RidgeBureau x = bureau(1, 0, 10, 10, 10, 10, 10, 10, 10);
            x.desk(0);
            passDays(x, ahead);
            x.desk(1);
            Due.is("40 days from " + ahead, Math.min(2000, ahead + 40), x.days(40));
            Due.is("that day is today", Math.min(2000, ahead + 40), x.count(0));
            Due.is("days of work", Math.min(2000 - ahead, 40), x.count(9));
        }
        Twins.Script past = x -> {
            Past.rich(x);
            x.tell(1, 1);
            x.tell(0, 1);
            passDays(x, 1996);
            Due.is("the day ahead of the last", 1999, x.count(0));
            Due.is("card", 4, x.card(8));
            x.finger(4, 0, 0);
            Due.is("the last", 2000, x.days(1));
            // what one day more would compare, and strike
            x.finger(4, 1, 1);
            x.end(0);
            Due.rules(x, 2000, "strike if age>0;doubt if pairs<9");
            Due.is("in the file", 1, x.count(3));
            Due.is("left", 1, x.left(0));
        };
        Twins.same("a day behind the last", past, x -> Due.is("days", 2000, x.days(1)));
        Twins.same("40 days behind the last", past, x -> Due.is("days", 2000, x.days(40)));
    }

    // ---- the order of the desk's work

    private static void graveOnesFirst() {
        // marks 1 and 4 are grave
        RidgeBureau x = bureau(5, 0b10010, 1, 1);
        Due.rules(x, 0, EACH_IS_A_HIT);
        x.desk(3);
        x.days(4);
        int[] marks = {1, 1, 4, 4, 0, 0, 2, 2, 3, 3};
        for (int i = 0; i < 10; i++) {
            hit(x, i, marks[i], i % 2, 0, 1, 0, i / 3 + 1);
        }
        Due.is("hits", 10, x.count(8));
        Due.is("mark 5", 5, x.mark(0, 0, 1, 1, false));
        Due.is("mark 6", 6, x.mark(0, 0, 1, 1, true));
        x.finger(0, 9, 0);
        x.days(1);
        hit(x, 10, 1, 0, 9, 1, 0, 5);
        hit(x, 11, 4, 0, 9, 1, 0, 5);
        hit(x, 12, 6, 0, 0, 1, 0, 5);
        x.days(1);
        hit(x, 13, 6, 0, 9, 1, 0, 6);
        hit(x, 14, 6, 1, 0, 1, 0, 6);
        hit(x, 15, 0, 0, 9, 1, 0, 6);
    }

    private static void byCardsByFingers() {
        RidgeBureau x = bureau(1, 0, 3, 0, 2);
        x.finger(1, 9, 0);
        x.finger(1, 0, 0);
        x.finger(0, 1, -1);
        Due.rules(x, 0, EACH_IS_A_HIT);
        x.desk(4);
        x.days(2);
        int[][] due = {{0, 0}, {0, 2}, {1, 0}, {1, 9}, {2, 0}, {2, 1}};
        Due.is("hits", 6, x.count(8));
        for (int i = 0; i < 6; i++) {
            hit(x, i, 0, due[i][0], due[i][1], 1, 0, i / 4 + 1);
        }
    }

    private static void notComparedYet() {
        RidgeBureau x = bureau(2, 0, 2);
        Due.print(x, Due.LEFT);
        x.days(1);
        Due.is("compared", 4, x.count(9));
        Due.is("left of mark 0", 0, x.left(0));
        x.days(1);
        Due.is("none a second time", 4, x.count(9));
        x.finger(0, 0, 0);
        Due.is("the print that it has", 0, x.left(0));
        x.finger(0, 0, 1);
        Due.is("another print, of mark 0", 1, x.left(0));
        Due.is("another print, of mark 1", 1, x.left(1));
        x.finger(0, 0, 0);
        Due.is("the first print again", 1, x.left(0));
        x.finger(0, 1, -1);
        Due.is("none", 1, x.left(0));
        x.finger(0, 1, 0);
        Due.is("not missing any more", 2, x.left(0));
        x.point(0, 5, 5, 0, 0);
        x.spot(0, 5, 5, 0, 0);
        x.doubt(0, 0, 5);
        x.tell(0, 1);
        Due.is("nothing else makes any", 2, x.left(0));
        x.desk(1);
        x.days(1);
        Due.is("one of mark 0", 1, x.left(0));
        Due.is("none of mark 1", 2, x.left(1));
        x.point(0, 6, 6, 0, 0);
        x.spot(0, 6, 6, 0, 0);
        Due.is("points that come change nothing", 1, x.left(0));
        x.days(3);
        Due.is("compared", 8, x.count(9));
    }

    /** Mark 0 is grave, and proved on days 3 and 4 alone. */
    private static void provedToday() {
        RidgeBureau x = bureau(2, 1, 8);
        Due.rules(x, 0, EACH_IS_A_HIT);
        Due.rules(x, 3, "same if pairs<1;need 2");
        Due.rules(x, 5, "same if pairs<1;need 3");
        x.say(0, 0, 0, 7, 1);
        x.say(1, 0, 0, 7, 1);
        x.desk(1);
        x.days(6);
        int[] marks = {0, 0, 1, 1, 0, 0};
        int[] fingers = {0, 1, 0, 1, 2, 3};
        int[] verdicts = {1, 1, 2, 2, 2, 2};
        for (int i = 0; i < 6; i++) {
            hit(x, i, marks[i], 0, fingers[i], verdicts[i], 0, i + 1);
        }
        Due.is("left of it", 4, x.left(0));
        // one more says same: proved, until the same one says not
        x.say(2, 0, 0, 7, 1);
        Due.is("left of it, though it is proved", 4, x.left(0));
        x.days(1);
        hit(x, 6, 1, 0, 2);
        x.say(2, 0, 0, 7, 0);
        x.days(1);
        hit(x, 7, 0, 0, 4);
        x.say(2, 0, 0, 7, 1);
        x.finger(0, 7, -1);
        x.days(1);
        hit(x, 8, 0, 0, 5);
        x.finger(0, 7, 0);
        x.days(1);
        hit(x, 9, 1, 0, 3);
    }

    /** Each mark of 20 by itself, each finger of a card by itself: that mark alone is compared with none. */
    private static void eachMarkProved() {
        for (int mark = 0; mark < 20; mark++) {
            RidgeBureau x = bureau(20, 0b1010, 2, 10);
            Due.rules(x, 0, "same if pairs<1");
            x.say(mark % 6, mark, 1, mark % 10, 1);
            for (int other = 0; other < 20; other++) {
                if (other != mark) {
                    x.say(0, other, 1, other % 10, other % 2 * 2);
                }
            }
            x.desk(60);
            // 12 comparisons a mark, 60 a day
            x.days(4);
            for (int other = 0; other < 20; other++) {
                Due.is("left of " + other + " on day 4, proved is " + mark, other == mark ? 12 : 0, x.left(other));
            }
        }
    }

    private static void provedUponAStruckCard() {
        RidgeBureau x = bureau(1, 0, 2, 4);
        Due.rules(x, 0, "same if pairs<1;strike if cleared");
        x.say(0, 0, 0, 0, 1);
        x.desk(1);
        x.days(1);
        Due.is("proved: nothing is compared", 0, x.count(9));
        x.tell(0, 1);
        x.days(1);
        Due.is("proved still, as the card is struck at the end of the day", 0, x.count(9));
        Due.is("struck", 2, x.look(0, 2));
        x.days(1);
        Due.is("not proved upon a card in the file", 1, x.count(9));
        hit(x, 0, 0, 1, 0, 2, 0, 3);
        x.say(5, 0, 1, 3, 1);
        x.days(1);
        Due.is("proved upon the other", 1, x.count(9));
    }

    // ---- when cards are struck

    private static void strikeBehindTheDesk() {
        RidgeBureau x = bureau(1, 0, 1, 1);
        Due.rules(x, 0, EACH_IS_A_HIT + ";strike if child");
        x.tell(0, 0);
        x.days(1);
        Due.is("compared ahead of being struck", 2, x.count(9));
        Due.is("struck", 1, x.look(0, 2));
        Due.is("in the file", 1, x.count(3));
        x.finger(0, 0, -1);
        x.finger(0, 0, 0);
        x.finger(1, 1, 0);
        Due.is("left, without the struck one's", 1, x.left(0));
        x.days(1);
        Due.is("a struck one is compared no more", 3, x.count(9));
        Due.is("struck for ever, on that day", 1, x.look(0, 2));
        Due.is("hits of the struck one", 1, x.look(0, 5));
    }

    private static void longerThanKept() {
        for (int keep : new int[] {0, 1, 2, 39}) {
            RidgeBureau x = bureau(0, 0, 1);
            Due.rules(x, 0, "keep " + keep);
            x.days(keep);
            Due.is("age " + keep + " of " + keep, -1, x.look(0, 2));
            x.card(5);
            x.days(1);
            Due.is("age " + (keep + 1) + " of " + keep, keep + 1, x.look(0, 2));
            Due.is("age 1 of " + keep, keep == 0 ? 1 : -1, x.look(1, 2));
            x.days(keep);
            Due.is("age " + (keep + 1) + " of " + keep, keep + 1 + keep, x.look(1, 2));
        }
    }

    private static void someKeepRule() {
        RidgeBureau x = bureau(0, 0, 1);
        Due.rules(x, 0, "need 1;same if age>0");
        Due.rules(x, 2, "keep 9999 if child");
        Due.rules(x, 3, "need 1");
        x.days(1);
        Due.is("without a keep rule", -1, x.look(0, 2));
        x.card(1);
        x.tell(1, 0);
        x.days(1);
        Due.is("one that does not hold: kept 0, age 2", 2, x.look(0, 2));
        Due.is("it holds for the child", -1, x.look(1, 2));
        x.card(1);
        x.days(40);
        Due.is("by other rules", -1, x.look(2, 2));
        Due.rules(x, 42, "keep 5 if child;keep 40 if not child");
        x.card(1);
        x.days(1);
        Due.is("41 of 40", 43, x.look(2, 2));
        Due.is("42 of 5", 43, x.look(1, 2));
        Due.is("1 of 40", -1, x.look(3, 2));
        Due.is("the day stays", 2, x.look(0, 2));
    }

    private static void strikeRules() {
        RidgeBureau x = bureau(0, 0, 1);
        Due.rules(x, 0, "strike if pairs>0 or against>0 or points>0 or class>0 or grave;strike if age>3;keep 100");
        x.days(3);
        Due.is("age 3", -1, x.look(0, 2));
        x.days(1);
        Due.is("age 4", 4, x.look(0, 2));
        // by the rules of the day that ends
        RidgeBureau y = bureau(0, 0, 1, 1);
        Due.rules(y, 2, "strike if guilty");
        Due.rules(y, 3, "");
        y.tell(0, 2);
        y.days(1);
        Due.is("on day 1 there are none", 2, y.count(3));
        y.days(1);
        Due.is("on day 2", 2, y.look(0, 2));
        y.tell(1, 2);
        y.days(1);
        Due.is("on day 3 it is no rule any more", -1, y.look(1, 2));
        Due.is("in the file", 1, y.count(3));
    }

    // ---- promises 37 and 38

    private static void hitsKept() {
        // 7 marks, 30 fingers: 210 comparisons
        RidgeBureau x = bureau(7, 0, 10, 10, 10);
        Due.rules(x, 0, EACH_IS_A_HIT);
        x.desk(60);
        x.days(3);
        x.desk(19);
        x.days(1);
        Due.is("hits", 199, x.count(8));
        Due.noSuch("hit 199", () -> x.hit(199, 0));
        x.desk(1);
        x.days(1);
        Due.is("hits", 200, x.count(8));
        hit(x, 199, 6, 1, 9, 1, 0, 5);
        x.days(1);
        Due.is("a 201st is not kept", 200, x.count(8));
        hit(x, 199, 6, 1, 9, 1, 0, 5);
        hit(x, 0, 0, 0, 0, 1, 0, 1);
        Due.noSuch("hit 200", () -> x.hit(200, 0));
        Due.is("its comparison counts", 201, x.count(9));
        Due.is("and is not left", 9, x.left(6));
        x.desk(60);
        x.days(1);
        Due.is("comparisons", 210, x.count(9));
        Due.is("hits of card 1", 70, x.look(1, 5));
        Due.is("hits of card 2", 60, x.look(2, 5));
        Due.is("row 5 is hit 199", 7, x.tear(5, 7));
        Due.is("hit 199", 7, x.hit(199, 4));
        Due.is("check", 5, x.check());
    }

    private static void verdictsAboveZero() {
        RidgeBureau x = bureau(1, 0, 3);
        Due.print(x, Due.LEFT);
        Due.print(x, Due.WHORL);
        x.finger(0, 1, 1);
        x.finger(0, 2, 2);
        Due.rules(x, 0, "same if class>5;doubt if class>1");
        x.days(1);
        Due.is("compared", 3, x.count(9));
        Due.is("hits", 2, x.count(8));
        hit(x, 0, 0, 0, 1, 1, 0, 1);
        hit(x, 1, 0, 0, 2, 2, 0, 1);
        Due.is("hits of the card", 2, x.look(0, 5));
    }

    private static void noSuchHit() {
        RidgeBureau x = new RidgeBureau();
        Past.rich(x);
        int hits = x.count(8);
        for (int n : new int[] {-1, hits, 200, MIN, MAX}) {
            Twins.same("hit " + n, Past::rich, y -> Due.noSuch("hit", () -> y.hit(n, 0)));
        }
        for (int what : new int[] {-1, 6, MIN, MAX}) {
            Twins.same("what " + what, Past::rich, y -> Due.noSuch("hit", () -> y.hit(0, what)));
        }
        RidgeBureau y = bureau(1, 0, 2);
        Due.rules(y, 0, EACH_IS_A_HIT);
        Due.noSuch("hit 0 of none", () -> y.hit(0, 0));
        y.desk(1);
        y.days(1);
        Due.is("hit 0 of one", 0, y.hit(0, 0));
        Due.noSuch("hit 1 of one", () -> y.hit(1, 0));
        y.days(1);
        Due.is("hit 1 of two", 2, y.hit(1, 5));
    }

    private static void noSuchMark() {
        for (int n : new int[] {-1, 3, 20, MIN, MAX}) {
            Twins.same("left of mark " + n, Past::rich, x -> Due.outside("left", () -> x.left(n)));
        }
        RidgeBureau x = bureau(20, 0, 1);
        Due.is("left of mark 19", 1, x.left(19));
        x.desk(19);
        x.days(1);
        Due.is("left of mark 18", 0, x.left(18));
        Due.is("left of mark 19", 1, x.left(19));
        x.days(1);
        Due.is("left of mark 19", 0, x.left(19));
    }

    // ---- promises 40 and 41

    /** One hit a day, each of 0 pairs. */
    private static RidgeBureau hits(int count) {
        RidgeBureau x = bureau(1, 0, 10);
        Due.rules(x, 0, EACH_IS_A_HIT);
        x.desk(1);
        x.days(count);
        return x;
    }

    private static void rowsThereAre() {
        for (int count : new int[] {0, 1, 5, 6, 7, 10}) {
            int rows = Math.min(6, count);
            int first = count - rows;
            for (int n : new int[] {-1, rows, rows + 1, MIN, MAX}) {
                Twins.same("tear row " + n + " of " + rows, x -> {
                    Due.print(x, Due.ARCH);
                    x.mark(0, 0, 63, 63, true);
                    x.card(1);
                    for (int f = 0; f < count; f++) {
                        x.finger(0, f, 0);
                    }
                    Due.rules(x, 0, EACH_IS_A_HIT);
                    x.days(1);
                }, x -> Due.noSuch("tear", () -> x.tear(n, 1)));
            }
            RidgeBureau x = hits(count);
            Due.is("hits", count, x.count(8));
            for (int row = 0; row < rows; row++) {
                Due.is("whole", -1, x.check());
                Due.is("torn", 1 << row, x.tear(row, 1 << row));
                Due.is("its hit", 1 << row, x.hit(first + row, 4));
                Due.is("check", row, x.check());
                Due.is("whole again", 0, x.tear(row, 1 << row));
            }
        }
    }

    private static void masks() {
        RidgeBureau x = hits(2);
        int[] masks = {0, 1, 2, 255, -1, MIN, MAX, MIN};
        int pairs = 0;
        for (int mask : masks) {
            pairs ^= mask;
            Due.is("torn by " + mask, pairs, x.tear(1, mask));
            Due.is("its hit", pairs, x.hit(1, 4));
            Due.is("check", pairs == 0 ? -1 : 1, x.check());
        }
        Due.is("the other hit", 0, x.hit(0, 4));
    }

    private static void firstTornRow() {
        RidgeBureau x = hits(6);
        for (int row = 5; row >= 0; row--) {
            x.tear(row, 3);
            Due.is("the first", row, x.check());
        }
        x.tear(0, 3);
        Due.is("the second", 1, x.check());
        x.days(1);
        Due.is("the second is row 0 now", 0, x.check());
        x.tear(0, 3);
        Due.is("the third is row 1 now", 1, x.check());
        for (int i = 0; i < 3; i++) {
            x.days(1);
        }
        Due.is("hits", 10, x.count(8));
        Due.is("hits 4 and 5 are torn still: rows 0 and 1", 0, x.check());
        x.tear(0, 3);
        Due.is("hit 5", 1, x.check());
        x.tear(1, 3);
        Due.is("torn ones that are no rows any more", -1, x.check());
        Due.is("hit 3 stays torn", 3, x.hit(3, 4));
    }

    private static void asOnThatDay() {
        RidgeBureau x = bureau(1, 0, 2);
        x.point(0, 20, 20, 0, 0);
        x.spot(0, 20, 20, 0, 0);
        Due.rules(x, 0, "doubt if pairs<9");
        x.desk(1);
        x.days(1);
        x.point(0, 30, 30, 0, 0);
        x.spot(0, 32, 30, 0, 0);
        x.days(1);
        Due.is("pairs of day 1", 1, x.hit(0, 4));
        Due.is("pairs of day 2", 1, x.hit(1, 4));
        x.slack(2);
        Due.is("pairs now", 2, x.lay(0, 0, 0));
        Due.is("rows are as they were", -1, x.check());
        x.tear(1, 3);
        Due.is("torn to what they are now", 2, x.hit(1, 4));
        Due.is("torn", 1, x.check());
        x.finger(0, 0, -1);
        Due.is("the finger plays no part", 1, x.check());
        x.tear(1, 3);
        Due.is("whole", -1, x.check());
        Due.is("of no rows", -1, new RidgeBureau().check());
    }

    /** Cards, marks, sayings, rules and what is told of cards, on the first day, one between, and the last. */
    private static void toldToday() {
        for (int today : new int[] {0, 1, 77, 2000}) {
            RidgeBureau x = bureau(0, 0);
            passDays(x, today);
            x.card(5);
            x.finger(0, 0, 0);
            x.mark(0, 0, 9, 9, false);
            Due.rules(x, today, "same if not age<0 and not age>0;doubt if age<2;keep 1;keep 2 if child");
            x.say(0, 0, 0, 0, 1);
            x.tell(0, 0);
            Due.is("card taken on", today, x.look(0, 1));
            int[] verdicts = {0, 2, 1, 0};
            for (int i = 0; i < 4; i++) {
                int day = today - 1 + i;
                Due.is("verdict on day " + day, verdicts[i], x.verdict(0, 0, day));
                Due.is("said on day " + day, i == 0 ? -1 : 1, x.said(0, 0, 0, 0, day));
                Due.is("proved on day " + day, i == 1, x.proved(0, 0, 0, day));
                Due.is("kept on day " + day, i == 0 ? 0 : 2, x.kept(0, day));
                Due.is("person on day " + day, i == 0 ? -1 : 0, x.person(0, day));
            }
            if (today < 2000) {
                x.days(2);
                hit(x, 0, 0, 0, 0, 1, 0, today + 1);
                Due.is("kept 2", -1, x.look(0, 2));
                x.days(1);
                Due.is("struck on", today + 3, x.look(0, 2));
            }
        }
    }

    private static void desks() {
        Edge.of(34, "IllegalArgumentException: they are none.", DayEdges::deskBounds);
        Edge.of(34, "COMPARISONS a DAY.", DayEdges::comparisonsADay);
        Edge.ofTerms("COMPARISONS (0 to 60; 10 at first) a DAY", DayEdges::comparisonsADay);
        Edge.ofTerms("as it has none left the next MARK comes", DayEdges::justEnough);
        Edge.ofTerms("GRAVE ones first, then by numbers", DayEdges::graveOnesFirst);
        Edge.ofTerms("with which it was not compared yet, by CARDS, by FINGERS", DayEdges::byCardsByFingers);
        Edge.ofTerms("(A FINGER that is given another PRINT, or none, was compared with no MARK; POINTS that come later"
                + " change nothing of that.)", DayEdges::notComparedYet);
        Edge.ofTerms("MARKS that are not PROVED TODAY", DayEdges::provedToday);
        Edge.ofTerms("upon any FINGER of a CARD in the file", DayEdges::eachMarkProved);
        Edge.ofTerms("of a CARD in the file, GRAVE ones first", DayEdges::provedUponAStruckCard);
    }

    private static void days() {
        Edge.of(35, "IllegalArgumentException: not 0 to 40.", DayEdges::manyDays);
        Edge.of(35, "So many DAYS, as far as TODAY may go: TODAY.", DayEdges::lastDay);
        Edge.ofTerms("TODAY is one more (0 at first, 2000 at last)", DayEdges::lastDay);
        Edge.ofTerms("Then CARDS are STRUCK.", DayEdges::strikeBehindTheDesk);
        Edge.ofTerms("What was told (CARDS, MARKS, sayings, RULES) on a DAY is TODAY's.", DayEdges::toldToday);
        Edge.ofTerms("its age is above what it is KEPT", DayEdges::longerThanKept);
        Edge.ofTerms("some keep RULE is in force (whether it holds or not): for ever", DayEdges::someKeepRule);
        Edge.ofTerms("A CARD is STRUCK at the end of a DAY (by the RULES of that DAY) if some strike RULE holds",
                DayEdges::strikeRules);
    }

    private static void rows() {
        Edge.ofTerms("is a HIT (at most 200 are kept): MARK, CARD, FINGER, VERDICT, PAIRS, DAY", DayEdges::hitsKept);
        Edge.ofTerms("Each COMPARISON with a VERDICT above 0", DayEdges::verdictsAboveZero);
        Edge.of(37, "NoSuchElementException: there is none such, or another what.", DayEdges::noSuchHit);
        Edge.of(38, "throws IndexOutOfBoundsException", DayEdges::noSuchMark);
        Edge.of(38, "How many COMPARISONS of a MARK with CARDS in the file are left as of now.", DayEdges::provedToday);
        Edge.of(40, "NoSuchElementException: there is none such.", DayEdges::rowsThereAre);
        Edge.ofTerms("ROWS: the latest 6 HITS", DayEdges::rowsThereAre);
        Edge.ofTerms("may be TORN (exclusive or with a mask)", DayEdges::masks);
        Edge.of(37, "4 PAIRS as kept", DayEdges::masks);
        Edge.of(40, "PAIRS of ROW i (of the latest 6 HITS, from 0, the oldest, on) are TORN: what they are then.",
                DayEdges::masks);
        Edge.of(41, "CHECK: the ROW; NONE.", DayEdges::firstTornRow);
        Edge.ofTerms("whose PAIRS are not those of BEST LAY as they were on that DAY; none", DayEdges::asOnThatDay);
    }

    public static void main(String[] args) {
        desks();
        days();
        rows();
        Edge.end(34, 35, 37, 38, 40, 41);
    }
}
