/** Promises 29 to 32 on their edges: fingers that are alike, persons, and what is told of cards. */
public final class PersonEdges {
    private static final int MIN = Integer.MIN_VALUE;
    private static final int MAX = Integer.MAX_VALUE;

    /** Prints 0 to 3: a left one, a left one of more ridges, a right one, an arch; each has a point at (20, 20). */
    private static RidgeBureau bureau(int cards) {
        RidgeBureau x = new RidgeBureau();
        for (String field : new String[] {Due.LEFT, Due.FAR_LEFT, Due.RIGHT, Due.ARCH}) {
            x.point(Due.print(x, field), 20, 20, 0, 0);
        }
        for (int c = 0; c < cards; c++) {
            x.card(c);
        }
        return x;
    }

    private static void setFirst(RidgeBureau x, int card, int fingers, int print) {
        for (int f = 0; f < fingers; f++) {
            x.finger(card, f, print);
        }
    }

    // ---- promise 29

    private static void fingersAlike() {
        RidgeBureau x = bureau(2);
        Due.rules(x, 0, "same if pairs>0");
        Due.is("none", 0, x.alike(0, 1, 0));
        for (int f = 0; f < 10; f++) {
            x.finger(0, f, 0);
            Due.is("on one alone", f, x.alike(0, 1, 0));
            x.finger(1, f, 1);
            Due.is("of another class", f, x.alike(0, 1, 0));
            x.finger(1, f, 0);
            Due.is("alike", f + 1, x.alike(0, 1, 0));
            Due.is("alike, the other way", f + 1, x.alike(1, 0, 0));
            Due.is("with itself", f + 1, x.alike(0, 0, 0));
        }
        for (int f = 9; f >= 0; f--) {
            x.finger(0, f, -1);
            Due.is("one missing", f, x.alike(0, 1, 0));
        }
        Due.is("with itself, all missing", 0, x.alike(0, 0, 0));
        Due.is("with itself", 10, x.alike(1, 1, 0));
    }

    private static void ofTheOtherFinger() {
        RidgeBureau x = bureau(2);
        Due.rules(x, 0, "same if pairs>0");
        x.finger(0, 0, 0);
        x.finger(1, 5, 0);
        Due.is("the same finger of the other hand", 0, x.alike(0, 1, 0));
        x.finger(1, 1, 0);
        Due.is("another finger", 0, x.alike(0, 1, 0));
        x.doubt(0, 0, 2);
        x.finger(1, 0, 1);
        x.doubt(1, 0, 2);
        Due.is("second classes that are one", 0, x.alike(0, 1, 0));
        x.finger(1, 0, 0);
        x.doubt(1, 0, 7);
        Due.is("second classes that are not one", 1, x.alike(0, 1, 0));
    }

    private static void verdictOfTwoPrints() {
        RidgeBureau x = bureau(2);
        x.finger(0, 0, 0);
        x.finger(1, 0, 0);
        Due.is("without rules", 0, x.alike(0, 1, 0));
        Due.rules(x, 1, "doubt if pairs>0");
        Due.rules(x, 2, "same if pairs>0 and not grave and not child and age<1 and points>0 and points<2 and class>1"
                + " and class<3 and against<1");
        Due.rules(x, 3, "same if grave or child or cleared or guilty or age>0 or age<0");
        Due.rules(x, 4, "same if pairs>1");
        x.tell(0, 0);
        x.tell(1, 0);
        int[] due = {0, 0, 1, 0, 0, 0};
        for (int day = 0; day < due.length; day++) {
            Due.is("alike on day " + day, due[day], x.alike(0, 1, day));
        }
        Due.is("ahead of all days", 0, x.alike(0, 1, MIN));
        Due.is("behind all days", 0, x.alike(0, 1, MAX));
        // neither must be taken by then, nor in the file still
        x.days(2);
        x.card(9);
        x.finger(2, 0, 0);
        Due.rules(x, 2, "same if pairs>0");
        Due.is("taken today", 1, x.alike(0, 2, 2));
        Due.is("by the rules of a day that comes", 0, x.alike(0, 2, 3));
    }

    /** The lesser card's print is laid by 10 along x: its clear comes to lie from 10 on. */
    private static void clearOfALaidPrint() {
        for (int place = 8; place <= 11; place++) {
            RidgeBureau x = bureau(2);
            int other = Due.print(x, Due.LEFT);
            x.point(other, 30, 20, 0, 0);
            x.point(other, place, 40, 1, 8);
            x.finger(0, 0, 0);
            x.finger(1, 0, other);
            Due.rules(x, 0, "same if pairs>0 and pairs<2 and against>0 and points<2");
            Due.rules(x, 1, "same if pairs>0 and pairs<2 and against<1 and points<2");
            Due.is("against, a point at " + place, place >= 10 ? 1 : 0, x.alike(0, 1, 0));
            Due.is("not against, a point at " + place, place >= 10 ? 0 : 1, x.alike(0, 1, 1));
            // the other way round the lesser one has two points
            x.finger(0, 0, other);
            x.finger(1, 0, 0);
            Due.is("of two points", 0, x.alike(0, 1, 0));
            Due.is("of two points", 0, x.alike(1, 0, 1));
            Due.rules(x, 2, "same if points>1 and points<3 and pairs>0");
            Due.is("of two points", 1, x.alike(1, 0, 2));
        }
    }

    /** Of each two of three cards one has a print of two points, the other one of one: the lesser's points count. */
    private static void personsByTheLesser() {
        for (int two = 0; two < 3; two++) {
            for (int one = 0; one < 3; one++) {
                if (one == two) {
                    continue;
                }
                RidgeBureau x = bureau(3);
                x.point(0, 40, 40, 0, 0);
                x.finger(two, 0, 0);
                x.finger(one, 0, Due.print(x, Due.LEFT));
                x.point(4, 20, 20, 0, 0);
                Due.rules(x, 0, "same if points>1; fingers 1");
                Due.rules(x, 1, "same if points<2; fingers 1");
                for (int day = 0; day < 2; day++) {
                    boolean areOne = two < one == (day == 0);
                    Due.is("persons", areOne ? 2 : 3, x.persons(day, false));
                    Due.is("of two names", areOne ? 1 : 0, x.persons(day, true));
                    Due.is("the greater's person", areOne ? Math.min(one, two) : Math.max(one, two),
                            x.person(Math.max(one, two), day));
                }
            }
        }
    }

    private static int kindOf(int n) {
        return Integer.bitCount(n) % 2;
    }

    /** Of 20 prints and 20 marks each has one point, an end or a fork: marks on prints, then prints on prints. */
    private static void eachOnEach() {
        RidgeBureau x = bureau(2);
        for (int p = 4; p < 20; p++) {
            Due.print(x, Due.LEFT);
        }
        for (int n = 0; n < 20; n++) {
            if (n >= 4) {
                x.point(n, 20, 20, kindOf(n), 0);
            }
            x.mark(0, 0, 63, 63, false);
            x.spot(n, 20, 20, 1 - kindOf(n), 0);
        }
        Due.rules(x, 0, "same if pairs>0");
        for (int m = 4; m < 20; m++) {
            for (int p = 4; p < 14; p++) {
                Due.is("mark " + m + " on " + p, kindOf(m) == kindOf(p) ? 0 : 1, x.lay(m, p, 0));
            }
        }
        for (int way = 0; way < 3; way++) {
            int due = 0;
            for (int f = 0; f < 10; f++) {
                int other = 4 + (f * (2 * way + 1) + way) % 10;
                x.finger(0, f, 4 + f);
                x.finger(1, f, other);
                due += kindOf(4 + f) == kindOf(other) ? 1 : 0;
            }
            Due.is("alike, way " + way, due, x.alike(0, 1, 0));
            Due.is("alike, way " + way, due, x.alike(1, 0, 0));
        }
    }

    private static void shiftsOnMany(RidgeBureau x) {
        for (int m : new int[] {0, 1, 2, 3, 9, 19}) {
            for (int p : new int[] {0, 1, 19, 20, 21, 22, 40, 43}) {
                Due.is("shift of mark " + m + " on print " + p, p - m, x.lay(m, p, 3));
            }
        }
    }

    /** Each of 44 prints and 20 marks has a point at an x of its own, so each lay has another shift. */
    private static void manyOnMany() {
        RidgeBureau x = new RidgeBureau();
        for (int p = 0; p < 44; p++) {
            x.point(Due.print(x, Due.LEFT), p, 20, p % 2, 0);
        }
        for (int m = 0; m < 20; m++) {
            x.spot(x.mark(0, 0, 63, 63, false), m, 20, 2, 0);
        }
        Due.rules(x, 0, "same if pairs>0");
        x.card(0);
        x.card(1);
        shiftsOnMany(x);
        for (int f = 0; f < 10; f++) {
            x.finger(0, f, f % 4);
            x.finger(1, f, f % 3);
        }
        int due = 0;
        for (int f = 0; f < 10; f++) {
            due += f % 4 % 2 == f % 3 % 2 ? 1 : 0;
        }
        Due.is("alike", due, x.alike(0, 1, 0));
        shiftsOnMany(x);
    }

    private static void noSuchCard() {
        for (int c : new int[] {-1, 4, 16, MIN, MAX}) {
            Twins.same("card " + c, Past::rich, x -> {
                Due.outside("alike", () -> x.alike(c, 0, 0));
                Due.outside("alike", () -> x.alike(0, c, 0));
                Due.outside("alike", () -> x.alike(c, c, 0));
                Due.outside("person", () -> x.person(c, 0));
                Due.outside("tell", () -> x.tell(c, 0));
            });
        }
        RidgeBureau x = new RidgeBureau();
        Past.rich(x);
        Due.is("the last card with itself", 2, x.alike(3, 3, 3));
        Due.is("its person on its day, by one finger", 0, x.person(3, 2));
        Due.is("by two", 3, x.person(3, 3));
        Due.is("it is told", true, x.tell(3, 2));
    }

    // ---- promise 30

    private static void enoughFingers() {
        for (int need = 0; need <= 10; need++) {
            RidgeBureau x = bureau(2);
            Due.rules(x, 0, need == 0 ? "same if pairs>0" : "fingers 10;fingers 1;same if pairs>0;fingers " + need);
            int enough = need == 0 ? 3 : need;
            setFirst(x, 1, 10, 0);
            for (int f = 0; f < 10; f++) {
                Due.is("fingers " + need + ", " + f + " alike", f >= enough ? 0 : 1, x.person(1, 0));
                Due.is("persons, " + f + " alike", f >= enough ? 1 : 2, x.persons(0, false));
                x.finger(0, f, 0);
            }
            Due.is("fingers " + need + ", all alike", 0, x.person(1, 0));
            Due.is("the day ahead of the rules", -1, x.person(1, -1));
        }
    }

    private static void takenOn() {
        RidgeBureau x = bureau(1);
        Due.rules(x, 0, "same if pairs>0;fingers 1");
        x.finger(0, 0, 0);
        x.days(4);
        x.card(7);
        x.finger(1, 0, 0);
        int[] days = {MIN, -1, 0, 3, 4, 5, MAX};
        int[] first = {-1, -1, 0, 0, 0, 0, 0};
        int[] second = {-1, -1, -1, -1, 0, 0, 0};
        int[] names = {0, 0, 0, 0, 1, 1, 1};
        for (int i = 0; i < days.length; i++) {
            Due.is("person of 0 on day " + days[i], first[i], x.person(0, days[i]));
            Due.is("person of 1 on day " + days[i], second[i], x.person(1, days[i]));
            Due.is("persons on day " + days[i], first[i] + 1, x.persons(days[i], false));
            Due.is("persons of two names on day " + days[i], names[i], x.persons(days[i], true));
        }
    }

    /** Card 1 lies between 0 and 2; it is struck on day 3. */
    private static void struckBetween() {
        RidgeBureau x = bureau(3);
        Due.rules(x, 0, "same if pairs>0;fingers 1;strike if cleared");
        x.finger(0, 0, 0);
        x.finger(1, 0, 0);
        x.finger(1, 9, 2);
        x.finger(2, 9, 2);
        x.days(2);
        x.tell(1, 1);
        x.days(1);
        x.days(2);
        Due.is("struck", 3, x.look(1, 2));
        int[] days = {0, 1, 2, 3, 4, 5, MAX};
        for (int day : days) {
            boolean isThere = day < 3;
            Due.is("person of 0 on day " + day, 0, x.person(0, day));
            Due.is("person of 1 on day " + day, isThere ? 0 : -1, x.person(1, day));
            Due.is("person of 2 on day " + day, isThere ? 0 : 2, x.person(2, day));
            Due.is("persons on day " + day, isThere ? 1 : 2, x.persons(day, false));
            Due.is("persons of two names on day " + day, isThere ? 1 : 0, x.persons(day, true));
        }
        Due.is("alike, though struck", 1, x.alike(0, 1, 5));
    }

    /** Cards 0 to 10 in some order, each with one finger in common with the next one alone; 11 to 15 with none. */
    private static void chain() {
        int[][] orders = {{0, 1, 2, 3, 4, 5, 6, 7, 8, 9, 10}, {10, 9, 8, 7, 6, 5, 4, 3, 2, 1, 0},
            {5, 0, 9, 3, 7, 1, 10, 2, 8, 4, 6}, {8, 3, 10, 4, 9, 6, 2, 1, 5, 0, 7}};
        // the least cards of the first six in each order, and of the other five
        int[][] least = {{0, 6}, {5, 0}, {0, 2}, {3, 0}};
        for (int i = 0; i < orders.length; i++) {
            int[] order = orders[i];
            RidgeBureau x = bureau(16);
            Due.rules(x, 0, "same if pairs>0;fingers 1");
            for (int f = 0; f < 10; f++) {
                x.finger(order[f], f, 0);
                x.finger(order[f + 1], f, 0);
            }
            for (int c = 0; c < 16; c++) {
                Due.is("person of " + c, c <= 10 ? 0 : c, x.person(c, 0));
            }
            Due.is("persons", 6, x.persons(0, false));
            Due.is("of more than one name", 1, x.persons(0, true));
            x.finger(order[5], 5, -1);
            for (int at = 0; at <= 10; at++) {
                Due.is("person of " + order[at] + " in two parts", least[i][at <= 5 ? 0 : 1], x.person(order[at], 0));
            }
            Due.is("persons", 7, x.persons(0, false));
            Due.is("of more than one name", 2, x.persons(0, true));
        }
    }

    // ---- promise 31

    private static void namesOfPersons() {
        int[][] names = {{4, 4, 4}, {4, 4, 5}, {4, 5, 4}, {5, 4, 4}, {4, 5, 6}};
        for (int[] its : names) {
            RidgeBureau x = bureau(0);
            for (int c = 0; c < 3; c++) {
                x.card(its[c]);
                x.finger(c, 0, 0);
            }
            Due.rules(x, 0, "same if pairs>0;fingers 1");
            Due.is("one person", 1, x.persons(0, false));
            boolean isOneName = its[0] == its[1] && its[1] == its[2];
            Due.is("under " + its[0] + " " + its[1] + " " + its[2], isOneName ? 0 : 1, x.persons(0, true));
            x.finger(1, 0, -1);
            Due.is("two persons", 2, x.persons(0, false));
            Due.is("without the second card", its[0] == its[2] ? 0 : 1, x.persons(0, true));
        }
        Due.is("without cards", 0, new RidgeBureau().persons(0, true));
    }

    // ---- promise 32

    private static void whats() {
        for (int what : new int[] {-1, 3, MIN, MAX}) {
            Twins.same("tell " + what, Past::rich, x -> Due.illegal("tell", () -> x.tell(1, what)));
        }
        Due.outside("no such card is told first", () -> new RidgeBureau().tell(0, 3));
        // of card 0 of the rich past it was told on day 1 that it is a child's
        Twins.same("told once more", Past::rich, x -> Due.is("tell", false, x.tell(0, 0)));
        for (int what = 0; what < 3; what++) {
            RidgeBureau x = bureau(2);
            Due.rules(x, 0, "keep 9 if " + new String[] {"child", "cleared", "guilty"}[what]);
            x.days(2);
            Due.is("not told", true, x.tell(0, what));
            x.days(2);
            Due.is("told", false, x.tell(0, what));
            int[] due = {0, 0, 9, 9, 9};
            for (int day = 0; day < 5; day++) {
                Due.is("the first telling stays, on day " + day, due[day], x.kept(0, day));
            }
            Due.is("of the other card", 0, x.kept(1, 4));
            Due.is("of the other card", true, x.tell(1, what));
            Due.is("of the other card from today on", 0, x.kept(1, 3));
            Due.is("of the other card from today on", 9, x.kept(1, 4));
        }
    }

    public static void main(String[] args) {
        Edge.of(29, "How many FINGERS of two CARDS are ALIKE on a DAY.", PersonEdges::fingersAlike);
        Edge.ofTerms("are ALIKE: the PRINTS' CLASSES are one", PersonEdges::fingersAlike);
        Edge.ofTerms("(the same ones of both, both with PRINTS)", PersonEdges::ofTheOtherFinger);
        Edge.ofTerms("(not grave, age 0), has the VERDICT SAME", PersonEdges::verdictOfTwoPrints);
        Edge.ofTerms("laid on the other one as a MARK that has all CLEAR", PersonEdges::clearOfALaidPrint);
        Edge.ofTerms("that of the CARD of the lesser number, laid on the other one as a MARK", PersonEdges::eachOnEach);
        Edge.ofTerms("laid on the other one as a MARK", PersonEdges::manyOnMany);
        Edge.ofTerms("and that of the CARD of the lesser number, laid on the other one", PersonEdges::personsByTheLesser);
        Edge.of(29, "throws IndexOutOfBoundsException", PersonEdges::noSuchCard);
        Edge.ofTerms("as the last fingers RULE of it (3 without)", PersonEdges::enoughFingers);
        Edge.of(30, "NONE, if it was not taken", PersonEdges::takenOn);
        Edge.ofTerms("TWO CARDS are ONE on a DAY, if both were taken up to it", PersonEdges::takenOn);
        Edge.of(30, "or was STRUCK by then", PersonEdges::struckBetween);
        Edge.ofTerms("(STRUCK ones on that DAY, or ahead of it, are left out.)", PersonEdges::struckBetween);
        Edge.of(30, "The least CARD of the PERSON of a CARD on a DAY", PersonEdges::chain);
        Edge.ofTerms("CARDS that are ONE, also by others between, are of one PERSON", PersonEdges::chain);
        Edge.of(30, "throws IndexOutOfBoundsException", PersonEdges::noSuchCard);
        Edge.of(31, "how many of them have CARDS under two NAMES or more", PersonEdges::namesOfPersons);
        Edge.of(32, "IllegalArgumentException: another one.", PersonEdges::whats);
        Edge.of(32, "(the first telling stays): whether it was not told", PersonEdges::whats);
        Edge.of(32, "throws IndexOutOfBoundsException", PersonEdges::noSuchCard);
        Edge.end(29, 30, 31, 32);
    }
}
