/** Promises 12 to 15: marks, the slack, and the best lay. */
public final class MarkPromises {
    private static final int MIN = Integer.MIN_VALUE;
    private static final int MAX = Integer.MAX_VALUE;

    /** A bureau of one print and one mark (all clear), with these points each: x, y, kind, heading. */
    private static RidgeBureau bureau(int[][] print, int[][] mark) {
        return bureau(print, mark, 0, 0, 63, 63);
    }

    private static RidgeBureau bureau(int[][] print, int[][] mark, int x0, int y0, int x1, int y1) {
        RidgeBureau x = new RidgeBureau();
        Due.print(x, Due.ARCH);
        for (int[] p : print) {
            x.point(0, p[0], p[1], p[2], p[3]);
        }
        x.mark(x0, y0, x1, y1, false);
        for (int[] p : mark) {
            x.spot(0, p[0], p[1], p[2], p[3]);
        }
        return x;
    }

    private static void best(String what, RidgeBureau x, int... due) {
        for (int i = 0; i < due.length; i++) {
            Due.is(what + ": lay " + i, due[i], x.lay(0, 0, i));
        }
    }

    private static void promise12() {
        RidgeBureau x = new RidgeBureau();
        int[][] wrong = {{-1, 0, 5, 5}, {0, -1, 5, 5}, {6, 0, 5, 5}, {0, 6, 5, 5}, {0, 0, 64, 5}, {0, 0, 5, 64},
            {MIN, 0, MAX, 5}, {0, MIN, 5, MAX}, {MAX, MAX, MIN, MIN}};
        for (int[] r : wrong) {
            Due.illegal("mark", () -> x.mark(r[0], r[1], r[2], r[3], true));
        }
        Due.is("none came", 0, x.count(4));
        Due.is("all of it", 0, x.mark(0, 0, 63, 63, true));
        Due.is("one place", 1, x.mark(63, 63, 63, 63, false));
        for (int i = 2; i < 20; i++) {
            Due.is("mark", i, x.mark(5, 5, 5, 5, false));
        }
        Due.unsupported("a 21st mark", () -> x.mark(0, 0, 63, 63, true));
        Due.illegal("a wrong rectangle is told ahead of there being 20", () -> x.mark(0, 0, 64, 63, true));
        Due.is("marks", 20, x.count(4));
    }

    private static void promise13() {
        RidgeBureau x = new RidgeBureau();
        Due.outside("no such mark is told ahead", () -> x.spot(0, 64, 0, 0, 0));
        x.mark(10, 10, 20, 20, false);
        int[][] wrong = {{-1, 0, 0, 0}, {64, 0, 0, 0}, {0, -1, 0, 0}, {0, 64, 0, 0}, {0, 0, -1, 0}, {0, 0, 3, 0},
            {0, 0, 0, -1}, {0, 0, 0, 16}, {MAX, MAX, MAX, MAX}, {MIN, MIN, MIN, MIN}};
        for (int[] p : wrong) {
            Due.illegal("spot", () -> x.spot(0, p[0], p[1], p[2], p[3]));
        }
        Due.is("a point outside of the clear comes, too", 0, x.spot(0, 63, 0, 2, 15));
        for (int i = 1; i < 8; i++) {
            Due.is("spot", i, x.spot(0, i, i, 1, i));
        }
        Due.is("a 9th", -1, x.spot(0, 5, 5, 0, 2));
        Due.illegal("a wrong number is told ahead of there being 8", () -> x.spot(0, 0, 64, 0, 0));
        Due.outside("mark 1", () -> x.spot(1, 0, 0, 0, 0));
        Due.outside("mark -1", () -> x.spot(-1, 0, 0, 0, 0));
    }

    private static void promise14() {
        int[][] print = {{20, 20, 0, 0}, {30, 20, 0, 0}};
        int[][] mark = {{20, 20, 0, 0}, {33, 17, 0, 0}};
        RidgeBureau x = bureau(print, mark);
        Due.is("slack at first", 1, x.count(10));
        Due.is("pairs with 1", 1, x.lay(0, 0, 0));
        x.slack(2);
        Due.is("pairs with 2", 1, x.lay(0, 0, 0));
        x.slack(3);
        Due.is("pairs with 3", 2, x.lay(0, 0, 0));
        x.slack(0);
        Due.is("pairs with 0", 1, x.lay(0, 0, 0));
        x.slack(8);
        Due.is("slack", 8, x.count(10));
        Due.is("pairs with 8", 2, x.lay(0, 0, 0));
        for (int n : new int[] {-1, 9, MIN, MAX}) {
            Due.illegal("slack", () -> x.slack(n));
        }
        Due.is("slack as it was", 8, x.count(10));
        // with 0 the places must be the very same
        RidgeBureau y = bureau(new int[][] {{20, 20, 0, 0}, {30, 20, 0, 0}}, new int[][] {{0, 0, 0, 0}, {11, 0, 0, 0}});
        Due.is("1 apart", 2, y.lay(0, 0, 0));
        y.slack(0);
        Due.is("1 apart without slack", 1, y.lay(0, 0, 0));
    }

    private static void pairing() {
        // one point each: what may pair
        int[][] at = {{30, 30, 0, 0}};
        best("alike", bureau(at, new int[][] {{30, 30, 0, 0}}), 1, 0, 0, 0, 0);
        best("unsure of the mark", bureau(at, new int[][] {{30, 30, 2, 0}}), 1, 0, 0, 0, 0);
        best("unsure of the print", bureau(new int[][] {{30, 30, 2, 0}}, new int[][] {{30, 30, 1, 0}}), 1, 0);
        best("end and fork", bureau(at, new int[][] {{30, 30, 1, 0}}), 0, 2, 0, 0, 0);
        best("heading 15 beside 0", bureau(at, new int[][] {{30, 30, 0, 15}}), 1, 0, 0, 0, 0);
        best("heading 1 beside 0", bureau(at, new int[][] {{30, 30, 0, 1}}), 1, 0, 0, 0, 0);
        // no heading of 2, 6, 10, 14 is beside 0; each turn has one against on both sides
        best("heading 2", bureau(at, new int[][] {{30, 30, 0, 2}}), 0, 2, 0, 0, 0);
        // by turn 1 (20, 10) comes to (53, 20), heading 12 to 0
        best("turned once", bureau(at, new int[][] {{20, 10, 0, 12}}), 1, 0, 1, -23, 10);
        best("turned twice", bureau(at, new int[][] {{20, 10, 0, 8}}), 1, 0, 2, -13, -23);
        best("turned three times", bureau(at, new int[][] {{20, 10, 0, 4}}), 1, 0, 3, 20, -13);
        // two points of the mark, but one of the print: a point is in one pair at most
        best("one for two", bureau(at, new int[][] {{30, 30, 0, 0}, {31, 30, 0, 0}}), 1, 0, 0, -1, 0);
        // the first point of the mark may pair with both, the second with the first alone
        best("giving way", bureau(new int[][] {{30, 30, 0, 0}, {32, 30, 0, 0}},
                new int[][] {{31, 30, 0, 0}, {30, 31, 0, 0}}), 2, 0);
    }

    private static void against() {
        // the second point of the mark pairs with none: against, if it comes to lie within 0 to 63
        best("beside", bureau(new int[][] {{30, 30, 0, 0}}, new int[][] {{30, 30, 0, 0}, {40, 30, 1, 0}}),
                1, 1, 0, 0, 0);
        best("beyond 63", bureau(new int[][] {{60, 30, 0, 0}}, new int[][] {{30, 30, 0, 0}, {40, 30, 1, 0}}),
                1, 0, 0, 30, 0);
        best("on 63", bureau(new int[][] {{53, 30, 0, 0}}, new int[][] {{30, 30, 0, 0}, {40, 30, 1, 0}}),
                1, 1, 0, 23, 0);
        best("beyond 0", bureau(new int[][] {{30, 5, 0, 0}}, new int[][] {{30, 30, 0, 0}, {30, 20, 1, 0}}),
                1, 0, 0, 0, -25);
        // the second point of the print pairs with none: against, if it lies within the mark's clear as that lies
        int[][] two = {{30, 30, 0, 0}, {35, 33, 1, 0}};
        int[][] one = {{10, 10, 0, 0}};
        best("within, at its edge", bureau(two, one, 10, 10, 15, 13), 1, 1, 0, 20, 20);
        best("right of it", bureau(two, one, 10, 10, 14, 13), 1, 0, 0, 20, 20);
        best("below it", bureau(two, one, 10, 10, 15, 12), 1, 0, 0, 20, 20);
        // by turn 1 the clear (x0, y0) to (x1, y1) comes to (63 - y1, x0) to (63 - y0, x1): the point (10, 10) comes
        // to (53, 10) and on to (30, 30) by (- 23, 20), what is (5, 3) more to what is (- 3, 5) more
        int[][] turned = {{30, 30, 0, 0}, {27, 35, 1, 0}};
        int[][] oneTurned = {{10, 10, 0, 12}};
        best("turned, within", bureau(turned, oneTurned, 10, 10, 15, 13), 1, 1, 1, -23, 20);
        best("turned, less along x", bureau(turned, oneTurned, 10, 10, 14, 13), 1, 0, 1, -23, 20);
        best("turned, less along y", bureau(turned, oneTurned, 10, 10, 15, 12), 1, 0, 1, -23, 20);
    }

    private static void choosing() {
        // two places have a point that pairs: the one with fewer against it
        int[][] two = {{20, 20, 0, 0}, {40, 40, 0, 0}, {42, 43, 1, 0}};
        int[][] one = {{10, 10, 0, 0}};
        best("fewer against", bureau(two, one, 8, 8, 14, 14), 1, 0, 0, 10, 10);
        int[][] swapped = {{40, 40, 0, 0}, {20, 20, 0, 0}, {22, 23, 1, 0}};
        best("fewer against, further", bureau(swapped, one, 8, 8, 14, 14), 1, 0, 0, 30, 30);
        // more pairs come ahead of fewer against
        int[][] more = {{20, 20, 0, 0}, {40, 40, 0, 0}, {42, 40, 0, 0}, {40, 43, 1, 0}, {40, 45, 1, 0}};
        best("more pairs", bureau(more, new int[][] {{10, 10, 0, 0}, {12, 10, 0, 0}}, 8, 8, 16, 16), 2, 2, 0, 30, 30);
        // turns are alike: the least
        int[][] all = {{30, 30, 2, 0}, {30, 30, 2, 4}, {30, 30, 2, 8}, {30, 30, 2, 12}};
        best("the least turn", bureau(all, new int[][] {{30, 30, 2, 4}}, 0, 0, 63, 63), 1, 3, 0, 0, 0);
        // shifts are alike: the least along x, then along y, below 0 too
        int[][] rows = {{40, 20, 0, 0}, {20, 40, 0, 0}, {20, 20, 0, 0}, {40, 40, 0, 0}};
        best("the least shift", bureau(rows, new int[][] {{30, 30, 0, 0}}, 30, 30, 30, 30), 1, 0, 0, -10, -10);
        int[][] along = {{20, 40, 0, 0}, {40, 20, 0, 0}};
        best("along x ahead of y", bureau(along, new int[][] {{30, 30, 0, 0}}, 30, 30, 30, 30), 1, 0, 0, -10, 10);
        // without any pair: that with the fewest against, by some point upon another one
        int[][] none = {{20, 20, 1, 0}, {22, 20, 1, 0}};
        best("no pairs", bureau(none, new int[][] {{30, 30, 0, 0}}, 29, 29, 31, 31), 0, 2, 0, -10, -10);
    }

    private static void promise15() {
        best("no points on both sides", bureau(new int[0][], new int[0][]), 0, 0, 0, 0, 0);
        best("no points of the mark", bureau(new int[][] {{5, 5, 0, 0}}, new int[0][]), 0, 0, 0, 0, 0);
        best("no points of the print", bureau(new int[0][], new int[][] {{5, 5, 0, 0}}), 0, 0, 0, 0, 0);
        pairing();
        against();
        choosing();
        RidgeBureau x = bureau(new int[][] {{5, 5, 0, 0}}, new int[][] {{5, 5, 0, 0}});
        Due.is("pairs", 1, x.lay(0, 0, 0));
        x.point(0, 15, 15, 0, 0);
        x.spot(0, 15, 15, 0, 0);
        Due.is("points that come count", 2, x.lay(0, 0, 0));
        Due.noSuch("what 5", () -> x.lay(0, 0, 5));
        Due.noSuch("what -1", () -> x.lay(0, 0, -1));
        Due.noSuch("what MIN", () -> x.lay(0, 0, MIN));
        Due.outside("no such mark is told ahead", () -> x.lay(1, 0, 5));
        Due.outside("no such print is told ahead", () -> x.lay(0, 1, 5));
        Due.outside("mark -1", () -> x.lay(-1, 0, 0));
        Due.outside("print -1", () -> x.lay(0, -1, 0));
    }

    public static void main(String[] args) {
        promise12();
        promise13();
        promise14();
        promise15();
        Due.end();
    }
}
