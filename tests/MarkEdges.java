/** Promises 12 to 15 on their edges: marks, the slack, and the best lay. */
public final class MarkEdges {
    private static final int MIN = Integer.MIN_VALUE;
    private static final int MAX = Integer.MAX_VALUE;

    /** A bureau of one print and one mark with these points each (x, y, kind, heading); the mark's clear last. */
    private static RidgeBureau bureau(int[][] print, int[][] mark, int x0, int y0, int x1, int y1) {
        RidgeBureau x = new RidgeBureau();
        Due.print(x, Due.ARCH);
        for (int[] p : print) {
            x.point(0, p[0], p[1], p[2], p[3]);
        }
        x.mark(x0, y0, x1, y1, false);
        for (int[] p : mark) {
            x.spot(0, p[0], p[1], p[2], p[3]);
        }
        return x;
    }

    private static RidgeBureau bureau(int[][] print, int[][] mark) {
        return bureau(print, mark, 0, 0, 63, 63);
    }

    private static int[][] points(int... numbers) {
        int[][] all = new int[numbers.length / 4][];
        for (int i = 0; i < all.length; i++) {
            all[i] = new int[] {numbers[4 * i], numbers[4 * i + 1], numbers[4 * i + 2], numbers[4 * i + 3]};
        }
        return all;
    }

    private static int[][] reversed(int[][] all) {
        int[][] other = new int[all.length][];
        for (int i = 0; i < all.length; i++) {
            other[i] = all[all.length - 1 - i];
        }
        return other;
    }

    private static void best(String what, RidgeBureau x, int... due) {
        for (int i = 0; i < due.length; i++) {
            Due.is(what + ": lay " + i, due[i], x.lay(0, 0, i));
        }
    }

    // ---- promise 12

    private static void rectangles() {
        int[][] right = {{0, 0, 63, 63}, {0, 0, 0, 0}, {63, 63, 63, 63}, {0, 63, 0, 63}, {7, 9, 7, 9}, {7, 9, 8, 10}};
        RidgeBureau x = new RidgeBureau();
        for (int i = 0; i < right.length; i++) {
            int[] r = right[i];
            Due.is("mark", i, x.mark(r[0], r[1], r[2], r[3], i % 2 == 0));
        }
        int[][] wrong = {{-1, 0, 63, 63}, {0, -1, 63, 63}, {0, 0, 64, 63}, {0, 0, 63, 64}, {8, 0, 7, 63}, {0, 8, 63, 7},
            {64, 0, 64, 63}, {0, 64, 63, 64}, {-1, 0, -1, 63}, {0, -1, 63, -1}, {MIN, 0, 63, 63}, {0, MIN, 63, 63},
            {0, 0, MAX, 63}, {0, 0, 63, MAX}, {1, 0, MIN, 0}, {0, 1, 0, MIN}};
        for (int[] r : wrong) {
            Twins.same("mark " + r[0] + " " + r[1] + " " + r[2] + " " + r[3], Past::rich,
                    y -> Due.illegal("mark", () -> y.mark(r[0], r[1], r[2], r[3], true)));
        }
    }

    private static void twentyMarks(RidgeBureau x) {
        Past.rich(x);
        for (int i = 3; i < 20; i++) {
            Due.is("mark", i, x.mark(5, 5, 20 + i, 30, i % 2 == 0));
        }
    }

    private static void aMarkTooMany() {
        Twins.same("a 21st mark", MarkEdges::twentyMarks,
                x -> Due.unsupported("mark", () -> x.mark(0, 0, 63, 63, true)));
        Twins.same("a wrong 21st mark", MarkEdges::twentyMarks,
                x -> Due.illegal("mark", () -> x.mark(0, 0, 64, 63, true)));
        RidgeBureau x = new RidgeBureau();
        twentyMarks(x);
        Due.is("marks", 20, x.count(4));
        Due.is("a point of mark 19", 0, x.spot(19, 20, 20, 0, 0));
        Due.is("mark 19 laid", 1, x.lay(19, 0, 0));
        Due.outside("mark 20", () -> x.lay(20, 0, 0));
        Due.is("mark 18 has none", 0, x.lay(18, 0, 0));
    }

    // ---- promise 13

    private static final int[][] NO_POINTS = {{-1, 0, 0, 0}, {64, 0, 0, 0}, {0, -1, 0, 0}, {0, 64, 0, 0}, {0, 0, -1, 0},
        {0, 0, 3, 0}, {0, 0, 0, -1}, {0, 0, 0, 16}, {MAX, 0, 0, 0}, {0, MIN, 0, 0}, {0, 0, MIN, 0}, {0, 0, 0, MAX}};

    private static void spotsNumbers() {
        int[][] edges = {{0, 0, 0, 0}, {63, 0, 0, 0}, {0, 63, 0, 0}, {0, 0, 2, 0}, {0, 0, 0, 15}, {63, 63, 2, 15}};
        RidgeBureau x = new RidgeBureau();
        // a point need not lie within its mark's clear
        x.mark(30, 30, 30, 30, false);
        for (int i = 0; i < edges.length; i++) {
            int[] p = edges[i];
            Due.is("spot", i, x.spot(0, p[0], p[1], p[2], p[3]));
        }
        for (int[] p : NO_POINTS) {
            Twins.same("spot " + p[0] + " " + p[1] + " " + p[2] + " " + p[3], Past::rich,
                    y -> Due.illegal("spot", () -> y.spot(2, p[0], p[1], p[2], p[3])));
        }
        Due.outside("no such mark is told first", () -> x.spot(1, 64, 0, 0, 0));
        Due.outside("no such mark is told first", () -> x.spot(-1, 0, 0, 3, 0));
    }

    /** Eight points on mark 2 of the rich past, which has none. */
    private static void eightSpots(RidgeBureau x) {
        Past.rich(x);
        for (int i = 0; i < 8; i++) {
            Due.is("spot", i, x.spot(2, 30 + i, 30, 0, i));
        }
    }

    private static void ninthSpot() {
        Twins.same("a 9th spot", MarkEdges::eightSpots, x -> Due.is("spot", -1, x.spot(2, 20, 21, 2, 1)));
        Twins.same("a wrong 9th spot", MarkEdges::eightSpots,
                x -> Due.illegal("spot", () -> x.spot(2, 64, 21, 2, 1)));
        RidgeBureau x = new RidgeBureau();
        eightSpots(x);
        Due.is("a 9th", -1, x.spot(2, 20, 21, 2, 1));
        Due.is("another mark has room", 1, x.spot(0, 20, 21, 2, 1));
        int print = x.print();
        for (int i = 0; i < 8; i++) {
            x.point(print, 30 + i, 30, 0, i);
        }
        x.slack(0);
        Due.is("all 8 pair", 8, x.lay(2, print, 0));
    }

    private static void noSuchMark() {
        // the rich past has marks 0 to 2, prints 0 to 2
        for (int n : new int[] {-1, 3, 20, MIN, MAX}) {
            Twins.same("mark " + n, Past::rich, x -> {
                Due.outside("spot", () -> x.spot(n, 0, 0, 0, 0));
                Due.outside("lay", () -> x.lay(n, 0, 0));
                Due.outside("lay on it", () -> x.lay(0, n, 0));
            });
        }
        RidgeBureau x = new RidgeBureau();
        Past.rich(x);
        Due.is("the last mark on the last print", 0, x.lay(2, 2, 0));
        Due.is("the first mark on the last print", 1, x.lay(0, 2, 0));
        Due.is("the last mark's first point", 0, x.spot(2, 20, 21, 0, 1));
        Due.is("the last mark on the last print", 1, x.lay(2, 2, 0));
    }

    // ---- promise 14

    /** Two points of each; the second ones are so far apart, the first ones lie upon one another, or the other way. */
    private static void withinSlack() {
        for (int slack = 0; slack <= 8; slack++) {
            for (int apart = slack - 1; apart <= slack + 1; apart++) {
                int due = apart <= slack ? 2 : 1;
                int[][] steps = {{apart, 0}, {-apart, 0}, {0, apart}, {0, -apart}, {apart, -apart}, {slack, apart},
                    {apart, slack}};
                for (int[] step : apart < 0 ? new int[0][] : steps) {
                    RidgeBureau x = bureau(points(20, 20, 0, 0, 40, 40, 1, 0),
                            points(20, 20, 0, 0, 40 + step[0], 40 + step[1], 1, 0));
                    x.slack(slack);
                    Due.is("slack " + slack + ", apart " + step[0] + " " + step[1], due, x.lay(0, 0, 0));
                }
            }
        }
    }

    private static void slackBounds() {
        RidgeBureau x = new RidgeBureau();
        for (int n = 0; n <= 8; n++) {
            x.slack(n);
            Due.is("slack", n, x.count(10));
        }
        for (int n : new int[] {-1, 9, MIN, MAX}) {
            Twins.same("slack " + n, Past::rich, y -> Due.illegal("slack", () -> y.slack(n)));
        }
    }

    // ---- promise 15: which points may pair

    private static void kinds() {
        for (int print = 0; print <= 2; print++) {
            for (int mark = 0; mark <= 2; mark++) {
                int due = print == mark || print == 2 || mark == 2 ? 1 : 0;
                best("kinds " + print + ", " + mark, bureau(points(30, 30, print, 0), points(30, 30, mark, 0)), due,
                        due == 1 ? 0 : 2, 0, 0, 0);
            }
        }
    }

    /** Of all pairs of headings: by the least turn that brings them beside one another, if one does. */
    private static void headings() {
        for (int print = 0; print < 16; print++) {
            for (int mark = 0; mark < 16; mark++) {
                int due = -1;
                for (int turn = 3; turn >= 0; turn--) {
                    int apart = (print - mark - 4 * turn + 64) % 16;
                    due = apart == 0 || apart == 1 || apart == 15 ? turn : due;
                }
                RidgeBureau x = bureau(points(31, 31, 0, print), points(31, 31, 0, mark));
                Due.is("pairs of headings " + print + ", " + mark, due == -1 ? 0 : 1, x.lay(0, 0, 0));
                Due.is("against of headings " + print + ", " + mark, due == -1 ? 2 : 0, x.lay(0, 0, 1));
                Due.is("turn of headings " + print + ", " + mark, due == -1 ? 0 : due, x.lay(0, 0, 2));
            }
        }
    }

    private static int[] turned(int x, int y, int turn) {
        switch (turn) {
            case 0:
                return new int[] {x, y};
            case 1:
                return new int[] {63 - y, x};
            case 2:
                return new int[] {63 - x, 63 - y};
            default:
                return new int[] {y, 63 - x};
        }
    }

    /** The heading that is 0 behind a turn: by no other turn does it pair with 0. */
    private static int headingFor(int turn) {
        return (16 - 4 * turn) % 16;
    }

    private static void turnsAndShifts() {
        int[][] places = {{0, 0}, {63, 0}, {0, 63}, {63, 63}, {1, 62}, {20, 7}};
        for (int turn = 0; turn < 4; turn++) {
            for (int[] mark : places) {
                for (int[] print : places) {
                    RidgeBureau x = bureau(points(print[0], print[1], 0, 0),
                            points(mark[0], mark[1], 0, headingFor(turn)));
                    int[] comes = turned(mark[0], mark[1], turn);
                    best("turn " + turn, x, 1, 0, turn, print[0] - comes[0], print[1] - comes[1]);
                }
            }
        }
    }

    // ---- the most pairs

    private static void onePairEach() {
        for (int print = 1; print <= 8; print++) {
            for (int mark = 1; mark <= 8; mark++) {
                int[][] of = new int[print][];
                int[][] its = new int[mark][];
                java.util.Arrays.fill(of, new int[] {30, 30, 0, 0});
                java.util.Arrays.fill(its, new int[] {30, 30, 0, 0});
                // each may pair with some point, so that none is against it
                best(mark + " upon " + print, bureau(of, its), Math.min(print, mark), 0, 0, 0, 0);
            }
        }
    }

    /** Points 0 to 6 of the mark may pair with two of the print each, the last one with the first alone. */
    private static void chainOfPairs() {
        int[][] print = new int[8][];
        int[][] mark = new int[8][];
        for (int i = 0; i < 8; i++) {
            print[i] = new int[] {10 + 2 * i, 30, 0, 0};
            mark[i] = new int[] {i == 7 ? 10 : 11 + 2 * i, 30, 0, 0};
        }
        best("each gives way", bureau(print, mark), 8, 0, 0, 0, 0);
        best("the other way round", bureau(print, reversed(mark)), 8, 0, 0, 0, 0);
        best("the print's the other way round", bureau(reversed(print), mark), 8, 0, 0, 0, 0);
        // one print point less: one of the mark has none left, though it may pair
        int[][] less = java.util.Arrays.copyOf(print, 7);
        best("one less", bureau(less, mark), 7, 0, 0, -1, 0);
    }

    // ---- what is against

    /** The second point of the mark pairs with none; it comes to lie upon the print's edge, or one beyond it. */
    private static void withinThePrint() {
        int[][] steps = {{5, 0}, {-5, 0}, {0, 5}, {0, -5}};
        for (int turn = 0; turn < 4; turn++) {
            for (int[] step : steps) {
                for (int beyond = -1; beyond <= 1; beyond++) {
                    int px = step[0] > 0 ? 58 + beyond : step[0] < 0 ? 5 - beyond : 30;
                    int py = step[1] > 0 ? 58 + beyond : step[1] < 0 ? 5 - beyond : 30;
                    int dx = step[0];
                    int dy = step[1];
                    for (int i = 0; i < turn; i++) {
                        // a quarter back: what was (dx, dy) before it comes to (- dy, dx) by it
                        int was = dx;
                        dx = dy;
                        dy = -was;
                    }
                    RidgeBureau x = bureau(points(px, py, 0, 0),
                            points(30, 30, 0, headingFor(turn), 30 + dx, 30 + dy, 1, 0));
                    best("turn " + turn + ", step " + step[0] + " " + step[1] + ", beyond the edge by " + beyond, x, 1,
                            beyond > 0 ? 0 : 1, turn);
                }
            }
        }
    }

    /** The second point of the print pairs with none; it lies on an edge of the mark's clear, within, or beyond it. */
    private static void withinTheMark() {
        int[] us = {9, 10, 11, 15, 29, 30, 31};
        int[] vs = {19, 20, 21, 22, 25, 26, 27};
        for (int turn = 0; turn < 4; turn++) {
            int[] anchor = turned(15, 22, turn);
            for (int u : us) {
                for (int v : vs) {
                    int[] other = turned(u, v, turn);
                    RidgeBureau x = bureau(
                            points(32, 32, 0, 0, 32 + other[0] - anchor[0], 32 + other[1] - anchor[1], 1, 8),
                            points(15, 22, 0, headingFor(turn)), 10, 20, 30, 26);
                    x.slack(0);
                    boolean isWithin = u >= 10 && u <= 30 && v >= 20 && v <= 26;
                    best("turn " + turn + ", (" + u + ", " + v + ")", x, 1, isWithin ? 1 : 0, turn,
                            32 - anchor[0], 32 - anchor[1]);
                }
            }
        }
    }

    private static void pairsTaken() {
        // the second of the mark has no pair left, but may have: it is not against; nor is one of the print
        best("two of the mark", bureau(points(30, 30, 0, 0), points(30, 30, 0, 0, 31, 31, 0, 1)), 1, 0, 0, -1, -1);
        best("two of the print", bureau(points(30, 30, 0, 0, 31, 31, 0, 1), points(30, 30, 0, 0)), 1, 0, 0, 0, 0);
        // one more apart: both of the mark and none of the print can be against
        best("two of the mark, 2 apart", bureau(points(30, 30, 0, 0), points(30, 30, 0, 0, 32, 30, 0, 1)),
                1, 1, 0, -2, 0);
        best("two of the print, 2 apart", bureau(points(30, 30, 0, 0, 32, 30, 0, 1), points(30, 30, 0, 0)),
                1, 1, 0, 0, 0);
    }

    // ---- which lay is the best

    private static void eitherWay(String what, int[][] print, int[][] mark, int[] clear, int... due) {
        best(what, bureau(print, mark, clear[0], clear[1], clear[2], clear[3]), due);
        best(what + ", points in another order",
                bureau(reversed(print), reversed(mark), clear[0], clear[1], clear[2], clear[3]), due);
    }

    private static void orderOfLays() {
        int[] around = {28, 28, 32, 32};
        // turn 0 brings the mark's point upon (20, 20), turn 1 upon (40, 40)
        int[][] one = points(30, 30, 0, 0);
        int[][] two = points(20, 20, 0, 0, 40, 40, 0, 4);
        eitherWay("the least turn", two, one, around, 1, 0, 0, -10, -10);
        eitherWay("fewer against by turn 1", points(20, 20, 0, 0, 40, 40, 0, 4, 22, 22, 1, 9), one, around,
                1, 0, 1, 40 - 33, 40 - 30);
        eitherWay("as many against by both turns",
                points(20, 20, 0, 0, 40, 40, 0, 4, 22, 22, 1, 9, 40, 42, 1, 9), one, around, 1, 1, 0, -10, -10);
        // more pairs, though more against, and by a greater turn
        eitherWay("more pairs", points(20, 20, 0, 0, 40, 40, 0, 4, 40, 37, 0, 4, 41, 41, 1, 9),
                points(30, 30, 0, 0, 27, 30, 0, 0), around, 2, 1, 1, 40 - 33, 40 - 30);
        // the least turn, though the shifts by a greater turn are less
        eitherWay("the turn ahead of the shifts", points(50, 50, 0, 0, 10, 10, 0, 4), one, around, 1, 0, 0, 20, 20);
        eitherWay("the least along x", points(20, 40, 0, 0, 21, 20, 0, 0), one, new int[] {30, 30, 30, 30},
                1, 0, 0, -10, 10);
        eitherWay("the least along y", points(20, 40, 0, 0, 20, 37, 0, 0), one, new int[] {30, 30, 30, 30},
                1, 0, 0, -10, 7);
        eitherWay("above 0", points(50, 40, 0, 0, 49, 50, 0, 0), one, new int[] {30, 30, 30, 30}, 1, 0, 0, 19, 20);
    }

    /** Between (- 3) and 0 lies a shift by which both points would pair, but none comes just upon another. */
    private static void justUpon() {
        int[][] print = points(20, 20, 0, 0, 30, 20, 1, 0);
        int[][] mark = points(20, 20, 0, 0, 33, 20, 1, 0);
        RidgeBureau x = bureau(print, mark);
        x.slack(2);
        best("3 apart, slack 2", x, 1, 2, 0, -3, 0);
        x.slack(3);
        best("3 apart, slack 3", x, 2, 0, 0, -3, 0);
        x.slack(2);
        best("slack 2 again", x, 1, 2, 0, -3, 0);
    }

    private static void noPoints() {
        int[][] none = new int[0][];
        int[][] eight = new int[8][];
        for (int i = 0; i < 8; i++) {
            eight[i] = new int[] {i + 1, i + 1, 0, 0};
        }
        best("none on both", bureau(none, none), 0, 0, 0, 0, 0);
        best("none of the mark", bureau(eight, none), 0, 0, 0, 0, 0);
        best("none of the print", bureau(none, eight), 0, 0, 0, 0, 0);
        best("one of each", bureau(points(5, 5, 0, 0), points(1, 2, 0, 0)), 1, 0, 0, 4, 3);
        // points that pair with none: there is a lay, and all of them are against it
        RidgeBureau x = bureau(points(5, 5, 0, 0), points(1, 2, 1, 0));
        best("one of each that do not pair", x, 0, 2, 0, 4, 3);
        // the same behind other lays of the same object, of pairs and of none
        int other = x.mark(0, 0, 63, 63, false);
        Due.is("a mark without points", 0, x.lay(other, 0, 1));
        x.spot(other, 5, 5, 0, 0);
        Due.is("a mark that pairs", 1, x.lay(other, 0, 0));
        best("one of each that do not pair, behind others", x, 0, 2, 0, 4, 3);
        x.spot(other, 6, 5, 1, 8);
        Due.is("its second point is against", 1, x.lay(other, 0, 1));
        best("one of each that do not pair, behind others", x, 0, 2, 0, 4, 3);
    }

    private static void whats() {
        for (int what : new int[] {-1, 5, MIN, MAX}) {
            Twins.same("lay " + what, Past::rich, x -> Due.noSuch("lay", () -> x.lay(0, 0, what)));
        }
        RidgeBureau x = bureau(points(40, 35, 0, 8), points(5, 6, 0, 0, 7, 40, 1, 1));
        Due.is("what 0", 1, x.lay(0, 0, 0));
        Due.is("what 4", 35 - 57, x.lay(0, 0, 4));
        Due.is("what 3", 40 - 58, x.lay(0, 0, 3));
        Due.is("what 2", 2, x.lay(0, 0, 2));
        Due.is("what 1", 1, x.lay(0, 0, 1));
        Due.outside("no such mark is told first", () -> x.lay(1, 0, 5));
        Due.outside("no such print is told first", () -> x.lay(0, 1, 5));
    }

    /** The last mark and the last print there may be, beside others. */
    private static void lastOnLast() {
        RidgeBureau x = new RidgeBureau();
        for (int i = 0; i < 60; i++) {
            Due.print(x, Due.ARCH);
        }
        for (int i = 0; i < 20; i++) {
            x.mark(0, 0, 63, 63, false);
        }
        int[] prints = {0, 1, 58, 59};
        int[] marks = {0, 1, 18, 19};
        for (int i = 0; i < 4; i++) {
            x.point(prints[i], 10 * i, 0, 0, 0);
            x.spot(marks[i], i, 0, 0, 0);
        }
        for (int again = 0; again < 2; again++) {
            for (int p = 0; p < 4; p++) {
                for (int m = 0; m < 4; m++) {
                    Due.is("mark " + marks[m] + " on print " + prints[p], 10 * p - m, x.lay(marks[m], prints[p], 3));
                }
            }
        }
    }

    /** What was asked once is asked again behind each change of the points and the slack. */
    private static void pointsThatCome() {
        RidgeBureau x = bureau(points(20, 20, 0, 0), points(20, 20, 0, 0));
        best("one of each", x, 1, 0, 0, 0, 0);
        x.point(0, 34, 20, 0, 0);
        best("a point of the print more", x, 1, 1, 0, 0, 0);
        x.spot(0, 33, 20, 0, 0);
        best("one of the mark more", x, 2, 0, 0, 0, 0);
        x.slack(0);
        best("without slack", x, 1, 2, 0, -13, 0);
        x.spot(0, 34, 20, 0, 0);
        best("a third of the mark", x, 2, 1, 0, 0, 0);
        x.point(0, 33, 20, 0, 0);
        best("a third of the print", x, 3, 0, 0, 0, 0);
    }

    private static void marks() {
        Edge.of(12, "IllegalArgumentException: not 0 to x0 to x1 to 63, or y likewise", MarkEdges::rectangles);
        Edge.of(12, "UnsupportedOperationException: there are 20.", MarkEdges::aMarkTooMany);
        Edge.ofTerms("MARKS (at most 20, numbered from 0 on)", MarkEdges::aMarkTooMany);
        Edge.of(13, "IllegalArgumentException likewise.", MarkEdges::spotsNumbers);
        Edge.of(13, "NONE likewise", MarkEdges::ninthSpot);
        Edge.ofTerms("POINTS likewise (at most 8)", MarkEdges::ninthSpot);
        Edge.of(13, "throws IndexOutOfBoundsException", MarkEdges::noSuchMark);
        Edge.of(14, "IllegalArgumentException: it is none.", MarkEdges::slackBounds);
        Edge.ofTerms("x and y each are not unlike by more than SLACK", MarkEdges::withinSlack);
    }

    private static void bestLays() {
        Edge.ofTerms("KINDS are one or one of them is unsure", MarkEdges::kinds);
        Edge.ofTerms("HEADINGS not unlike by more than 1 (modulo 16)", MarkEdges::headings);
        Edge.ofTerms("its HEADING 4 more by each, modulo 16", MarkEdges::headings);
        Edge.ofTerms("comes to (x, y), (63 - y, x), (63 - x, 63 - y), (y, 63 - x) by 0, 1, 2, 3 quarters",
                MarkEdges::turnsAndShifts);
        Edge.ofTerms("each POINT in one at most", MarkEdges::onePairEach);
        Edge.ofTerms("PAIRS: the most that can be had at once", MarkEdges::chainOfPairs);
        Edge.ofTerms("POINTS of the MARK, as it lies, within the PRINT's CLEAR", MarkEdges::withinThePrint);
        Edge.ofTerms("CLEAR of a PRINT: all 0 to 63.", MarkEdges::withinThePrint);
        Edge.ofTerms("POINTS of the PRINT that lie within the MARK's CLEAR, as it lies", MarkEdges::withinTheMark);
        Edge.ofTerms("may PAIR with none of the MARK's", MarkEdges::pairsTaken);
        Edge.ofTerms("that with the most PAIRS, then the fewest AGAINST, then the least TURN, the least SHIFT along x,"
                + " along y", MarkEdges::orderOfLays);
        Edge.ofTerms("those SHIFTS by which some POINT of the MARK comes just upon one of the PRINT",
                MarkEdges::justUpon);
        Edge.ofTerms("without POINTS on one side there is none: PAIRS 0, AGAINST 0.", MarkEdges::noPoints);
        Edge.of(15, "(2 to 4 are 0 without one)", MarkEdges::noPoints);
        Edge.of(15, "NoSuchElementException: another what.", MarkEdges::whats);
        Edge.of(15, "Of BEST LAY of a MARK upon a PRINT", MarkEdges::lastOnLast);
        Edge.of(15, "Of BEST LAY of a MARK upon a PRINT what 0 PAIRS, 1 AGAINST", MarkEdges::pointsThatCome);
        Edge.of(15, "throws IndexOutOfBoundsException", MarkEdges::noSuchMark);
    }

    public static void main(String[] args) {
        marks();
        bestLays();
        Edge.end(12, 13, 14, 15);
    }
}
