/** Promises 16 to 22, 36 and 39 on their edges: cards, their readings, and how rare they are. */
public final class CardEdges {
    private static final int MIN = Integer.MIN_VALUE;
    private static final int MAX = Integer.MAX_VALUE;
    private static final int ARCH = 0;
    private static final int TENT = 1;
    private static final int LEFT = 2;
    private static final int FAR_LEFT = 3;
    private static final int RIGHT = 4;
    private static final int FAR_RIGHT = 5;
    private static final int WHORL = 6;
    private static final int ODD = 7;

    /** A left one whose way crosses 3, what (3, 2) to (5, 2) cross, and 2. */
    private static Field left(int a, int b, int c) {
        return new Field().core(2, 2).delta(6, 6).cell(3, 2, a).cell(4, 2, b).cell(5, 2, c);
    }

    /** A right one whose way crosses what (3, 2) and (4, 2) cross, 2, what (2, 3) crosses, and 2. */
    private static Field right(int a, int b, int down) {
        return new Field().core(6, 2).delta(2, 6).cell(3, 2, a).cell(4, 2, b).cell(2, 3, down);
    }

    /** A bureau whose prints 0 to 7 have the classes 0 to 7. */
    private static RidgeBureau bureau() {
        RidgeBureau x = new RidgeBureau();
        new Field().on(x);
        new Field().core(2, 2).delta(2, 6).on(x);
        left(-1, -1, -1).on(x);
        left(4, 4, 4).on(x);
        right(-1, -1, -1).on(x);
        right(4, 4, 3).on(x);
        new Field().core(1, 1).core(4, 1).delta(1, 6).delta(4, 6).on(x);
        new Field().core(1, 1).on(x);
        return x;
    }

    private static void setAll(RidgeBureau x, int card, int... prints) {
        for (int f = 0; f < prints.length; f++) {
            x.finger(card, f, prints[f]);
        }
    }

    // ---- promise 16

    private static void names() {
        RidgeBureau x = new RidgeBureau();
        int[] right = {0, 1, 9998, 9999};
        for (int i = 0; i < 4; i++) {
            Due.is("card of name " + right[i], i, x.card(right[i]));
            Due.is("its name", right[i], x.look(i, 0));
        }
        for (int name : new int[] {-1, 10000, MIN, MAX}) {
            Twins.same("card of name " + name, Past::rich, y -> Due.illegal("card", () -> y.card(name)));
        }
    }

    private static void sixteenCards(RidgeBureau x) {
        Past.rich(x);
        for (int i = 4; i < 16; i++) {
            Due.is("card", i, x.card(100 + i));
            x.finger(i, i % 10, i % 3);
        }
    }

    private static void aCardTooMany() {
        Twins.same("a 17th card", CardEdges::sixteenCards, x -> Due.unsupported("card", () -> x.card(7)));
        Twins.same("a wrong 17th card", CardEdges::sixteenCards, x -> Due.illegal("card", () -> x.card(10000)));
        RidgeBureau x = new RidgeBureau();
        sixteenCards(x);
        Due.is("cards, a struck one counts", 16, x.count(2));
        Due.is("of them in the file", 15, x.count(3));
        Due.is("name of card 15", 115, x.look(15, 0));
        Due.outside("card 16", () -> x.look(16, 0));
    }

    private static void takenToday() {
        RidgeBureau x = new RidgeBureau();
        x.card(1);
        x.days(1);
        x.card(1);
        x.days(40);
        x.card(1);
        int[] due = {0, 1, 41};
        for (int c = 0; c < 3; c++) {
            Due.is("card " + c + " taken on", due[c], x.look(c, 1));
            Due.is("card " + c + " of that name", 1, x.look(c, 0));
        }
    }

    // ---- promise 17

    private static void otherwise() {
        for (int f = 0; f < 10; f++) {
            RidgeBureau x = bureau();
            x.card(0);
            int finger = f;
            Due.is("missing at first", false, x.finger(0, finger, -1));
            Due.is("print 0", true, x.finger(0, finger, 0));
            Due.is("print 0 again", false, x.finger(0, finger, 0));
            Due.is("the last print", true, x.finger(0, finger, 7));
            Due.is("the last print again", false, x.finger(0, finger, 7));
            Due.is("one finger has a print", 1, x.look(0, 3));
            Due.is("missing", true, x.finger(0, finger, -1));
            Due.is("missing again", false, x.finger(0, finger, -1));
            Due.is("none has a print", 0, x.look(0, 3));
        }
    }

    private static void noSuchFinger() {
        // the rich past has prints 0 to 2, cards 0 to 3
        int[][] wrong = {{-1, 0, 0}, {4, 0, 0}, {MIN, 0, 0}, {MAX, 0, 0}, {0, -1, 0}, {0, 10, 0}, {0, MIN, 0},
            {0, MAX, 0}, {0, 0, -2}, {0, 0, 3}, {0, 0, MIN}, {0, 0, MAX}, {-1, 0, -1}, {0, 10, -1}};
        for (int[] f : wrong) {
            Twins.same("finger " + f[0] + " " + f[1] + " " + f[2], Past::rich,
                    x -> Due.outside("finger", () -> x.finger(f[0], f[1], f[2])));
        }
    }

    /** All that takes a card, and a finger, with one that there is not. */
    private static void noSuchCard() {
        for (int c : new int[] {-1, 4, 16, MIN, MAX}) {
            Twins.same("card " + c, Past::rich, x -> {
                Due.outside("kind", () -> x.kind(c, 0));
                Due.outside("number", () -> x.number(c, true));
                Due.outside("drawers", () -> x.drawers(c));
                Due.outside("like", () -> x.like(c, 0));
                Due.outside("look", () -> x.look(c, 0));
                Due.outside("rare", () -> x.rare(c, true));
                Due.outside("doubt", () -> x.doubt(c, 0, 0));
            });
        }
        for (int f : new int[] {-1, 10, MIN, MAX}) {
            Twins.same("finger " + f, Past::rich, x -> {
                Due.outside("kind", () -> x.kind(0, f));
                Due.outside("doubt", () -> x.doubt(0, f, 0));
            });
        }
        RidgeBureau x = new RidgeBureau();
        Past.rich(x);
        Due.is("name of the last card", 9, x.look(3, 0));
        Due.is("its finger 9: of finger 4, right", 4, x.kind(3, 9));
    }

    // ---- promise 18

    private static void secondClasses() {
        for (int its = 0; its <= 7; its++) {
            RidgeBureau x = bureau();
            x.card(0);
            setAll(x, 0, 0, 0, 0, 0, 0, 0, 0, 0, 0, 0);
            Due.is("second class " + its, true, x.doubt(0, 9, its));
            Due.is("doubtful", 1, x.look(0, 4));
            Due.is("drawers", its == 0 ? 1 : 2, x.drawers(0));
            Due.is("none", true, x.doubt(0, 9, -1));
            Due.is("doubtful", 0, x.look(0, 4));
            Due.is("drawers", 1, x.drawers(0));
        }
        for (int its : new int[] {-2, 8, MIN, MAX}) {
            Twins.same("second class " + its, Past::rich, x -> Due.illegal("doubt", () -> x.doubt(0, 0, its)));
        }
        Due.outside("no such card is told first", () -> new RidgeBureau().doubt(0, 0, 8));
    }

    /** Card 1 of the rich past has finger 2 (missing) doubtful: 3 more, one of them missing. */
    private static void fourDoubtful(RidgeBureau x) {
        Past.rich(x);
        for (int f : new int[] {0, 1, 8}) {
            Due.is("doubt", true, x.doubt(1, f, 7));
        }
    }

    private static void aFifthDoubtful() {
        for (int f : new int[] {3, 9}) {
            for (int its : new int[] {-1, 0, 7}) {
                Twins.same("doubt of finger " + f + ", class " + its, CardEdges::fourDoubtful,
                        x -> Due.is("doubt", false, x.doubt(1, f, its)));
            }
        }
        Twins.same("a wrong class of a fifth", CardEdges::fourDoubtful,
                x -> Due.illegal("doubt", () -> x.doubt(1, 3, 8)));
        RidgeBureau x = new RidgeBureau();
        fourDoubtful(x);
        Due.is("four are doubtful, missing ones too", 4, x.look(1, 4));
        Due.is("one of the four anew: there are 3 others", true, x.doubt(1, 8, 2));
        Due.is("the missing one of the four anew", true, x.doubt(1, 2, 5));
        Due.is("four", 4, x.look(1, 4));
        Due.is("another card", true, x.doubt(0, 3, 0));
        Due.is("one of the four no more", true, x.doubt(1, 2, -1));
        Due.is("three", 3, x.look(1, 4));
        Due.is("a fourth again", true, x.doubt(1, 3, 0));
        Due.is("a fifth again", false, x.doubt(1, 2, 0));
        // a finger that is missing now stays doubtful
        x.finger(1, 0, -1);
        Due.is("four", 4, x.look(1, 4));
        Due.is("a fifth still", false, x.doubt(1, 2, 0));
    }

    // ---- promise 19

    private static void ofTheOtherHand() {
        for (int f = 0; f < 10; f++) {
            RidgeBureau x = bureau();
            x.card(0);
            int other = f < 5 ? f + 5 : f - 5;
            Due.is("both missing: " + f, 7, x.kind(0, f));
            x.finger(0, other, LEFT);
            Due.is("missing: " + f, LEFT, x.kind(0, f));
            for (int g = 0; g < 10; g++) {
                Due.is("another finger", g == f || g == other ? LEFT : 7, x.kind(0, g));
            }
            x.finger(0, f, TENT);
            Due.is("no longer missing: " + f, TENT, x.kind(0, f));
            Due.is("nor its other: " + f, LEFT, x.kind(0, other));
            x.finger(0, other, -1);
            Due.is("its other missing: " + f, TENT, x.kind(0, other));
        }
    }

    private static void fewAndMoreRidges() {
        Field[] fields = {left(4, -1, -1), left(4, 1, -1), left(4, 2, -1), left(4, 4, -1), right(4, 1, -1),
            right(4, 2, -1), right(4, 4, -1), right(4, 4, 3)};
        int[] ridges = {8, 9, 10, 11, 8, 9, 10, 11};
        int[] due = {LEFT, LEFT, FAR_LEFT, FAR_LEFT, RIGHT, RIGHT, FAR_RIGHT, FAR_RIGHT};
        RidgeBureau x = new RidgeBureau();
        x.card(0);
        for (int i = 0; i < fields.length; i++) {
            int print = fields[i].on(x);
            Due.is("ridges", ridges[i], x.ridges(print));
            x.finger(0, 3, print);
            Due.is("class by " + ridges[i] + " ridges", due[i], x.kind(0, 3));
        }
        // tents and whorls have one class, however many ridges they have
        Field tent = new Field().core(2, 1).delta(2, 7);
        Field whorl = new Field().core(2, 1).delta(2, 7).core(6, 1).delta(6, 7);
        for (int y = 2; y < 6; y++) {
            tent.cell(2, y, 0);
            whorl.cell(2, y, 0);
        }
        x.finger(0, 3, tent.on(x));
        x.finger(0, 4, whorl.on(x));
        Due.is("ridges of the tent", 14, x.ridges(8));
        Due.is("class of the tent", TENT, x.kind(0, 3));
        Due.is("ridges of the whorl", 14, x.ridges(9));
        Due.is("class of the whorl", WHORL, x.kind(0, 4));
    }

    private static void withoutSecondOnes() {
        RidgeBureau x = bureau();
        x.card(0);
        x.finger(0, 2, RIGHT);
        x.doubt(0, 2, ODD);
        x.doubt(0, 7, TENT);
        Due.is("a doubtful one", RIGHT, x.kind(0, 2));
        Due.is("a missing doubtful one", RIGHT, x.kind(0, 7));
        Due.is("upper", 077477, x.number(0, false));
        Due.is("lower", 077477, x.number(0, true));
    }

    // ---- promise 20

    private static void signsOfNumbers() {
        RidgeBureau x = bureau();
        x.card(0);
        Due.is("the greatest upper", 32767, x.number(0, false));
        Due.is("the greatest lower", 32767, x.number(0, true));
        setAll(x, 0, 0, 0, 0, 0, 0, 0, 0, 0, 0, 0);
        Due.is("the least upper", 0, x.number(0, false));
        Due.is("the least lower", 0, x.number(0, true));
        int[] worth = {4096, 512, 64, 8, 1};
        for (int f = 0; f < 10; f++) {
            for (int its = 0; its < 8; its++) {
                x.finger(0, f, its);
                Due.is("upper by finger " + f, f < 5 ? its * worth[f] : 0, x.number(0, false));
                Due.is("lower by finger " + f, f < 5 ? 0 : its * worth[f - 5], x.number(0, true));
            }
            x.finger(0, f, 0);
        }
    }

    // ---- promise 21

    private static void countsOfDrawers() {
        int[][] fingers = {{}, {0}, {9}, {0, 4}, {5, 9}, {0, 9}, {2, 3, 7}, {0, 1, 2, 3}, {1, 3, 5, 9}, {6, 7, 8, 9}};
        for (int[] its : fingers) {
            RidgeBureau x = bureau();
            x.card(0);
            setAll(x, 0, 0, 0, 0, 0, 0, 0, 0, 0, 0, 0);
            for (int f : its) {
                x.doubt(0, f, ODD);
            }
            Due.is("drawers of " + its.length, 1 << its.length, x.drawers(0));
            for (int i = 0; i < its.length; i++) {
                // a second class that is the first makes no other number
                x.doubt(0, its[i], ARCH);
                Due.is("drawers, some alike", 1 << its.length - i - 1, x.drawers(0));
            }
        }
    }

    private static void drawersOfMissingOnes() {
        RidgeBureau x = bureau();
        x.card(0);
        x.doubt(0, 0, ARCH);
        x.doubt(0, 5, TENT);
        Due.is("both missing, both doubtful", 1, x.drawers(0));
        x.finger(0, 0, LEFT);
        // finger 5 has what finger 0 has in each reading, not its own second class
        Due.is("one missing, both doubtful", 2, x.drawers(0));
        x.card(1);
        setAll(x, 1, ARCH, -1, -1, -1, -1, ARCH);
        Due.is("the number by second classes: a card of arches is like", 1, x.like(0, 0));
        x.finger(1, 5, TENT);
        Due.is("never by the second class of the missing one", -1, x.like(0, 0));
        x.finger(0, 5, LEFT);
        Due.is("none missing, both doubtful", 4, x.drawers(0));
        Due.is("now by that, too", 1, x.like(0, 0));
        x.finger(0, 0, -1);
        Due.is("the other one missing", 2, x.drawers(0));
    }

    // ---- promise 22

    private static void likeOnes() {
        RidgeBureau x = bureau();
        for (int c = 0; c < 16; c++) {
            x.card(c);
        }
        for (int n = 0; n < 15; n++) {
            Due.is("like 0, " + n, n + 1, x.like(0, n));
            Due.is("like 15, " + n, n, x.like(15, n));
            Due.is("like 7, " + n, n < 7 ? n : n + 1, x.like(7, n));
        }
        for (int n : new int[] {15, 16, -1, MIN, MAX}) {
            Due.is("like " + n, -1, x.like(7, n));
        }
        RidgeBureau alone = new RidgeBureau();
        alone.card(0);
        Due.is("a card alone is not like itself", -1, alone.like(0, 0));
    }

    private static void upperAndLowerTogether() {
        RidgeBureau x = bureau();
        x.card(0);
        x.card(1);
        setAll(x, 0, 0, 1, 2, 3, 4, 5, 6, 7, 0, 1);
        setAll(x, 1, 0, 1, 2, 3, 4, 5, 6, 7, 0, 1);
        Due.is("both alike", 1, x.like(0, 0));
        for (int f : new int[] {0, 4, 5, 9}) {
            int was = x.kind(1, f);
            x.finger(1, f, 7 - was);
            Due.is("another class of finger " + f, -1, x.like(0, 0));
            Due.is("another class of finger " + f, -1, x.like(1, 0));
            x.doubt(1, f, was);
            Due.is("and the same by the second class", 1, x.like(0, 0));
            Due.is("and the same by the second class", 0, x.like(1, 0));
            x.doubt(1, f, -1);
            x.finger(1, f, was);
            Due.is("both alike again", 1, x.like(0, 0));
        }
        // the 16th readings of both alone are one: every second class of the one is the other's first but for one
        for (int f = 0; f < 4; f++) {
            x.finger(0, f, LEFT);
            x.finger(1, f, RIGHT);
            x.doubt(0, f, WHORL);
            x.doubt(1, f, WHORL);
        }
        Due.is("by all second classes of both", 1, x.like(0, 0));
        x.doubt(1, 3, ODD);
        Due.is("one of them another", -1, x.like(0, 0));
    }

    private static void struckOnes() {
        RidgeBureau x = new RidgeBureau();
        for (int c = 0; c < 3; c++) {
            x.card(c);
        }
        Due.rules(x, 0, "strike if cleared");
        x.tell(1, 1);
        Due.is("told, not struck yet", 1, x.like(0, 0));
        x.days(1);
        Due.is("struck", 2, x.like(0, 0));
        Due.is("no other", -1, x.like(0, 1));
        Due.is("like ones of the struck one", 0, x.like(1, 0));
        Due.is("like ones of the struck one", 2, x.like(1, 1));
    }

    // ---- promise 36

    private static void looks() {
        for (int what : new int[] {-1, 6, MIN, MAX}) {
            Twins.same("look " + what, Past::rich, x -> Due.noSuch("look", () -> x.look(0, what)));
        }
        RidgeBureau x = new RidgeBureau();
        Due.outside("no such card is told first", () -> x.look(0, 6));
        Past.rich(x);
        // card 2 was struck on day 2; hits: mark 0 on cards 0, 1; mark 1 on cards 0 to 2 and so on, 4 a day
        Due.is("name of card 2", 5, x.look(2, 0));
        Due.is("struck on", 2, x.look(2, 2));
        Due.is("not struck", -1, x.look(0, 2));
        Due.is("taken on", 2, x.look(3, 1));
        Due.is("fingers", 3, x.look(1, 3));
        Due.is("doubtful fingers, the missing one", 1, x.look(1, 4));
        int hits = 0;
        for (int c = 0; c < 4; c++) {
            hits += x.look(c, 5);
        }
        Due.is("hits of all", x.count(8), hits);
        x.card(3);
        for (int f = 0; f < 10; f++) {
            x.finger(4, f, 0);
            Due.is("fingers", f + 1, x.look(4, 3));
        }
    }

    // ---- promise 39

    private static void rare(String what, RidgeBureau x, int card, long over, long under) {
        Due.is(what + ", above", over, x.rare(card, false));
        Due.is(what + ", below", under, x.rare(card, true));
    }

    private static void withoutPrints() {
        RidgeBureau x = bureau();
        x.card(0);
        x.card(1);
        rare("without prints", x, 0, 1, 1);
        x.finger(1, 5, LEFT);
        x.doubt(0, 0, LEFT);
        rare("others and second classes make none", x, 0, 1, 1);
        x.finger(0, 0, LEFT);
        rare("one finger, alone: 2 by 3", x, 0, 2, 3);
        x.finger(0, 0, -1);
        rare("missing again", x, 0, 1, 1);
    }

    private static void inTheFileOrNot() {
        RidgeBureau x = bureau();
        for (int c = 0; c < 3; c++) {
            x.card(c);
            x.finger(c, 4, c < 2 ? LEFT : TENT);
        }
        rare("two of three: 3 by 5", x, 0, 3, 5);
        rare("one of three: 2 by 5", x, 2, 2, 5);
        x.doubt(2, 4, LEFT);
        rare("second classes of others count not", x, 0, 3, 5);
        x.doubt(2, 4, -1);
        Due.rules(x, 0, "strike if cleared");
        x.tell(0, 1);
        x.days(1);
        rare("not in the file: it does not count itself: 2 by 4", x, 0, 1, 2);
        rare("one of two: 2 by 4", x, 1, 1, 2);
        x.tell(1, 1);
        x.tell(2, 1);
        x.days(1);
        rare("none is in the file: 1 by 2", x, 0, 1, 2);
        // a missing one of another card, which has the class of its other hand, counts not
        x.card(9);
        x.finger(3, 9, LEFT);
        x.card(9);
        x.finger(4, 4, LEFT);
        rare("itself alone: 2 by 3", x, 4, 2, 3);
        rare("itself alone: 2 by 3", x, 3, 2, 3);
    }

    private static void asLowAsCanBe() {
        RidgeBureau x = bureau();
        for (int c = 0; c < 16; c++) {
            x.card(c);
            for (int f = 0; f < 10; f++) {
                x.finger(c, f, c == 0 ? LEFT : RIGHT);
            }
        }
        rare("2 by 18, ten times", x, 0, 1, 3486784401L);
        rare("16 by 18, ten times", x, 15, 1073741824L, 3486784401L);
        RidgeBureau y = bureau();
        for (int c = 0; c < 15; c++) {
            y.card(c);
            for (int f = 0; f < 10; f++) {
                y.finger(c, f, LEFT);
            }
        }
        // 16 by 17, ten times: nothing can be made low
        rare("all of one class", y, 7, 1099511627776L, 2015993900449L);
        // finger 0: 2 by 3; finger 1: 3 by 4; finger 2: 4 by 5: 24 by 60
        RidgeBureau z = bureau();
        for (int c = 0; c < 3; c++) {
            z.card(c);
            for (int f = 2 - c; f < 3; f++) {
                z.finger(c, f, WHORL);
            }
        }
        rare("24 by 60", z, 2, 2, 5);
        rare("3 by 4 by 4 by 5: 12 by 20", z, 1, 3, 5);
        rare("4 by 5", z, 0, 4, 5);
    }

    private static void cards() {
        Edge.of(16, "IllegalArgumentException: the NAME is none", CardEdges::names);
        Edge.ofTerms("of a NAME (0 to 9999), taken on a DAY", CardEdges::names);
        Edge.of(16, "UnsupportedOperationException: there are 16.", CardEdges::aCardTooMany);
        Edge.ofTerms("CARDS (at most 16, numbered from 0 on)", CardEdges::aCardTooMany);
        Edge.of(16, "taken TODAY: its number", CardEdges::takenToday);
        Edge.of(17, "A FINGER has a PRINT (NONE: it is MISSING): whether it was otherwise.", CardEdges::otherwise);
        Edge.ofTerms("each has a PRINT, or is MISSING (so at first)", CardEdges::otherwise);
        Edge.of(17, "throws IndexOutOfBoundsException", CardEdges::noSuchFinger);
        Edge.ofTerms("IndexOutOfBoundsException: there is no such PRINT, CELL, CORNER, CARD, FINGER",
                CardEdges::noSuchCard);
        Edge.of(18, "IllegalArgumentException: not NONE to 7.", CardEdges::secondClasses);
        Edge.of(18, "false, and nothing happens, if 4 others are DOUBTFUL", CardEdges::aFifthDoubtful);
        Edge.ofTerms("At most 4 FINGERS of a CARD may be DOUBTFUL (MISSING ones count, too).",
                CardEdges::aFifthDoubtful);
        Edge.of(18, "throws IndexOutOfBoundsException", CardEdges::noSuchCard);
    }

    private static void readings() {
        Edge.of(19, "CLASS of a FINGER by the READING without second ones.", CardEdges::withoutSecondOnes);
        Edge.ofTerms("A MISSING one has the CLASS of the same FINGER of the other hand, 7 if that is MISSING, too.",
                CardEdges::ofTheOtherHand);
        Edge.ofTerms("FINGERS 0 to 9 (0 to 4 one hand, 5 to 9 the other, so that 5 more is the same finger of it)",
                CardEdges::ofTheOtherHand);
        Edge.ofTerms("LEFT 2 with RIDGES up to 9, 3 with more, RIGHT 4 and 5 likewise", CardEdges::fewAndMoreRidges);
        Edge.of(20, "FILE NUMBER: UPPER (lower false) or LOWER.", CardEdges::signsOfNumbers);
        Edge.ofTerms("as signs of a number to the base 8, the first one the highest", CardEdges::signsOfNumbers);
        Edge.of(21, "DRAWERS.", CardEdges::countsOfDrawers);
        Edge.ofTerms("how many unlike NUMBERS (UPPER and LOWER together) its READINGS have",
                CardEdges::countsOfDrawers);
        Edge.ofTerms("(a MISSING one: that which the other hand's has in this READING)",
                CardEdges::drawersOfMissingOnes);
        Edge.of(22, "LIKE CARD n (from 0 on); NONE if there is none such.", CardEdges::likeOnes);
        Edge.ofTerms("some READING has the NUMBER of some READING of it, by numbers", CardEdges::upperAndLowerTogether);
        Edge.ofTerms("all other CARDS that are in the file (not STRUCK)", CardEdges::struckOnes);
        Edge.of(36, "NoSuchElementException: another what.", CardEdges::looks);
        Edge.of(36, "2 DAY at whose end it was STRUCK (NONE)", CardEdges::looks);
        Edge.of(39, "1 by 1 without PRINTS", CardEdges::withoutPrints);
        Edge.ofTerms("(not MISSING; that CARD, too, if it is in the file), by two more than how many have a PRINT",
                CardEdges::inTheFileOrNot);
        Edge.ofTerms("all multiplied, as a fraction as low as can be", CardEdges::asLowAsCanBe);
    }

    public static void main(String[] args) {
        cards();
        readings();
        Edge.end(16, 17, 18, 19, 20, 21, 22, 36, 39);
    }
}
