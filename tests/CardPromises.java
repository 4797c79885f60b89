/** Promises 16 to 22, 36 and 39: cards, their readings, and how rare they are. */
public final class CardPromises {
    private static final int MIN = Integer.MIN_VALUE;
    private static final int MAX = Integer.MAX_VALUE;
    private static final int ARCH = 0;
    private static final int TENT = 1;
    private static final int LEFT = 2;
    private static final int FAR_LEFT = 3;
    private static final int RIGHT = 4;
    private static final int FAR_RIGHT = 5;
    private static final int WHORL = 6;
    private static final int ODD = 7;

    /** A bureau whose prints 0 to 7 have the classes 0 to 7. */
    private static RidgeBureau bureau() {
        RidgeBureau x = new RidgeBureau();
        String farRight = "06666000/06666000/06666000/06666000/24444222/24444222/24444222/24444222";
        String[] all = {Due.ARCH, Due.TENT, Due.LEFT, Due.FAR_LEFT, Due.RIGHT, farRight, Due.WHORL, Due.ODD};
        for (String field : all) {
            Due.print(x, field);
        }
        return x;
    }

    private static void promise16() {
        RidgeBureau x = new RidgeBureau();
        for (int name : new int[] {-1, 10000, MIN, MAX}) {
            Due.illegal("card", () -> x.card(name));
        }
        Due.is("none came", 0, x.count(2));
        Due.is("card", 0, x.card(0));
        x.days(3);
        Due.is("card", 1, x.card(9999));
        Due.is("taken on", 0, x.look(0, 1));
        Due.is("taken on", 3, x.look(1, 1));
        for (int i = 2; i < 16; i++) {
            Due.is("card", i, x.card(7));
        }
        Due.unsupported("a 17th card", () -> x.card(7));
        Due.illegal("a wrong name is told ahead of there being 16", () -> x.card(10000));
        Due.is("cards", 16, x.count(2));
        Due.is("each is missing all fingers", 0, x.look(15, 3));
        Due.is("and is not doubtful", 0, x.look(15, 4));
    }

    private static void promise17() {
        RidgeBureau x = bureau();
        x.card(1);
        Due.is("missing already", false, x.finger(0, 0, -1));
        Due.is("a print", true, x.finger(0, 0, LEFT));
        Due.is("the same", false, x.finger(0, 0, LEFT));
        Due.is("another one", true, x.finger(0, 0, RIGHT));
        Due.is("on a finger more", true, x.finger(0, 9, RIGHT));
        Due.is("fingers with prints", 2, x.look(0, 3));
        Due.is("missing now", true, x.finger(0, 0, -1));
        Due.is("fingers with prints", 1, x.look(0, 3));
        int[][] wrong = {{1, 0, 0}, {-1, 0, 0}, {0, 10, 0}, {0, -1, 0}, {0, 0, 8}, {0, 0, -2}, {0, 0, MIN}, {MAX, 0, -1}};
        for (int[] f : wrong) {
            Due.outside("finger", () -> x.finger(f[0], f[1], f[2]));
        }
        Due.is("missing as it was", 7, x.kind(0, 0));
        Due.is("fingers with prints as they were", 1, x.look(0, 3));
    }

    private static void promise18() {
        RidgeBureau x = bureau();
        x.card(1);
        for (int f = 0; f < 4; f++) {
            Due.is("doubtful", true, x.doubt(0, f, f));
        }
        Due.is("doubtful ones, missing too", 4, x.look(0, 4));
        Due.is("a fifth", false, x.doubt(0, 4, 0));
        Due.is("a fifth that is to be none", false, x.doubt(0, 4, -1));
        Due.is("another second class of the fourth", true, x.doubt(0, 3, 7));
        Due.is("doubtful ones", 4, x.look(0, 4));
        Due.is("no more doubtful", true, x.doubt(0, 0, -1));
        Due.is("nor was it", true, x.doubt(0, 0, -1));
        Due.is("doubtful ones", 3, x.look(0, 4));
        Due.is("a fourth", true, x.doubt(0, 4, 0));
        Due.illegal("class 8", () -> x.doubt(0, 0, 8));
        Due.illegal("class -2", () -> x.doubt(0, 0, -2));
        Due.illegal("class MAX", () -> x.doubt(0, 0, MAX));
        Due.outside("no such card is told ahead", () -> x.doubt(1, 0, 8));
        Due.outside("no such finger is told ahead", () -> x.doubt(0, 10, 8));
        Due.outside("finger -1", () -> x.doubt(0, -1, 0));
        Due.outside("card -1", () -> x.doubt(-1, 0, 0));
    }

    private static void promise19() {
        RidgeBureau x = bureau();
        x.card(1);
        for (int f = 0; f < 8; f++) {
            x.finger(0, f, f);
            Due.is("class", f, x.kind(0, f));
        }
        Due.is("a missing one has that of the other hand", 3, x.kind(0, 8));
        x.finger(0, 1, -1);
        Due.is("likewise on the upper hand", 6, x.kind(0, 1));
        x.finger(0, 6, -1);
        Due.is("both missing", 7, x.kind(0, 1));
        Due.is("both missing", 7, x.kind(0, 6));
        x.doubt(0, 0, 5);
        Due.is("without second ones", 0, x.kind(0, 0));
        Due.is("ridges up to 9 are few", 9, x.ridges(LEFT));
        Due.is("12 are more", 12, x.ridges(FAR_LEFT));
        classByRidges();
        Due.outside("card 1", () -> x.kind(1, 0));
        Due.outside("card -1", () -> x.kind(-1, 0));
        Due.outside("finger 10", () -> x.kind(0, 10));
        Due.outside("finger -1", () -> x.kind(0, -1));
    }

    /** Core (2, 4), delta (6, 4), crossed by 4 cells; the third one is 4, 2, 1 or blank. */
    private static void classByRidges() {
        RidgeBureau x = new RidgeBureau();
        String[] thirds = {"4", "2", "1", "."};
        int[] ridges = {12, 11, 10, 9};
        for (int i = 0; i < 4; i++) {
            String field = "00222200/00222200/00222200/00222200/66444466/66444466/66444466/66444466";
            Due.print(x, field.replaceFirst("66444466", "6644" + thirds[i] + "466"));
            Due.is("ridges by " + thirds[i], ridges[i], x.ridges(i));
            x.card(i);
            x.finger(i, 0, i);
            Due.is("class by " + thirds[i], i < 3 ? 3 : 2, x.kind(i, 0));
        }
    }

    private static void promise20() {
        RidgeBureau x = bureau();
        x.card(1);
        Due.is("upper of none", 32767, x.number(0, false));
        Due.is("lower of none", 32767, x.number(0, true));
        int[] prints = {TENT, LEFT, FAR_LEFT, RIGHT, FAR_RIGHT, WHORL, ODD, ARCH, TENT, LEFT};
        for (int f = 0; f < 10; f++) {
            x.finger(0, f, prints[f]);
        }
        Due.is("upper", 012345, x.number(0, false));
        Due.is("lower", 067012, x.number(0, true));
        x.finger(0, 9, -1);
        x.finger(0, 1, -1);
        x.doubt(0, 0, 7);
        Due.is("upper", 017345, x.number(0, false));
        Due.is("lower", 067015, x.number(0, true));
        Due.outside("card 1", () -> x.number(1, false));
        Due.outside("card -1", () -> x.number(-1, true));
    }

    private static void promise21() {
        RidgeBureau x = bureau();
        x.card(1);
        Due.is("of no doubtful finger", 1, x.drawers(0));
        x.doubt(0, 0, 5);
        Due.is("of a missing one that is doubtful", 1, x.drawers(0));
        x.finger(0, 0, LEFT);
        Due.is("of one", 2, x.drawers(0));
        x.doubt(0, 0, LEFT);
        Due.is("of one whose second class is its first", 1, x.drawers(0));
        x.doubt(0, 0, 5);
        x.finger(0, 6, ARCH);
        x.doubt(0, 6, 1);
        x.finger(0, 2, ARCH);
        x.doubt(0, 2, 1);
        Due.is("of three", 8, x.drawers(0));
        x.finger(0, 7, ARCH);
        x.doubt(0, 7, 1);
        Due.is("of four", 16, x.drawers(0));
        x.doubt(0, 7, 0);
        Due.is("of four, one alike", 8, x.drawers(0));
        Due.outside("card 1", () -> x.drawers(1));
        Due.outside("card -1", () -> x.drawers(-1));
    }

    private static void promise22() {
        RidgeBureau x = bureau();
        for (int i = 0; i < 4; i++) {
            x.card(i);
        }
        Due.is("all are like", 1, x.like(0, 0));
        Due.is("all are like", 0, x.like(2, 0));
        Due.is("all are like", 3, x.like(2, 2));
        Due.is("none such", -1, x.like(2, 3));
        Due.is("none such", -1, x.like(2, -1));
        Due.is("none such", -1, x.like(2, MIN));
        Due.is("none such", -1, x.like(2, MAX));
        x.finger(0, 0, LEFT);
        x.finger(1, 0, RIGHT);
        Due.is("none has its number", -1, x.like(0, 0));
        x.doubt(1, 0, LEFT);
        Due.is("a reading of the other has", 1, x.like(0, 0));
        Due.is("and this one the other way", 0, x.like(1, 0));
        x.doubt(1, 0, -1);
        x.doubt(0, 0, RIGHT);
        Due.is("a reading of its own has", 1, x.like(0, 0));
        x.doubt(0, 0, TENT);
        x.doubt(1, 0, TENT);
        Due.is("second ones are like", 1, x.like(0, 0));
        // the missing finger 5 goes with the reading of finger 0: LEFT and RIGHT are never together
        x.doubt(0, 0, -1);
        x.doubt(1, 0, LEFT);
        x.finger(0, 5, RIGHT);
        Due.is("a missing one has what the other hand's has in this reading", -1, x.like(0, 0));
        x.finger(0, 5, LEFT);
        Due.is("so it is like", 1, x.like(0, 0));
        Due.rules(x, 0, "strike if cleared");
        x.tell(3, 1);
        x.tell(1, 1);
        x.days(1);
        Due.is("struck ones are not like", -1, x.like(0, 0));
        Due.is("but have others that are", 2, x.like(3, 0));
        Due.is("which are in the file", -1, x.like(3, 1));
        Due.is("and have them not", -1, x.like(2, 0));
        Due.outside("card 4", () -> x.like(4, 0));
        Due.outside("card -1", () -> x.like(-1, 0));
    }

    private static void promise36() {
        RidgeBureau x = bureau();
        Due.outside("no such card is told ahead", () -> x.look(0, 9));
        x.days(2);
        x.card(4321);
        x.finger(0, 3, ARCH);
        x.finger(0, 8, ARCH);
        x.doubt(0, 0, 3);
        int[] due = {4321, 2, -1, 2, 1, 0};
        for (int what = 0; what < due.length; what++) {
            Due.is("look " + what, due[what], x.look(0, what));
        }
        x.card(1);
        x.finger(1, 0, ARCH);
        x.mark(0, 0, 9, 9, false);
        Due.rules(x, 2, "doubt if pairs<1; strike if cleared");
        x.tell(0, 1);
        x.days(3);
        Due.is("hits", 2, x.look(0, 5));
        Due.is("hits", 1, x.look(1, 5));
        Due.is("struck", 3, x.look(0, 2));
        Due.is("not struck", -1, x.look(1, 2));
        Due.noSuch("what 6", () -> x.look(0, 6));
        Due.noSuch("what -1", () -> x.look(0, -1));
        Due.outside("card 2", () -> x.look(2, 0));
        Due.outside("card -1", () -> x.look(-1, 0));
    }

    private static void rare(String what, RidgeBureau x, int card, long over, long under) {
        Due.is(what + ", above", over, x.rare(card, false));
        Due.is(what + ", below", under, x.rare(card, true));
    }

    private static void promise39() {
        RidgeBureau x = bureau();
        x.card(1);
        rare("without prints", x, 0, 1, 1);
        x.finger(0, 0, LEFT);
        rare("itself alone: 2 by 3", x, 0, 2, 3);
        x.card(2);
        x.finger(1, 5, LEFT);
        rare("a missing one does not count: 2 by 3", x, 0, 2, 3);
        x.finger(1, 0, RIGHT);
        rare("one of two: 2 by 4", x, 0, 1, 2);
        x.doubt(0, 0, RIGHT);
        rare("without second classes", x, 0, 1, 2);
        x.finger(1, 0, FAR_LEFT);
        rare("another class of the same pattern", x, 0, 1, 2);
        x.card(3);
        x.finger(2, 0, LEFT);
        rare("two of three: 3 by 5", x, 0, 3, 5);
        x.finger(0, 9, WHORL);
        rare("3 by 5 by 2 by 3", x, 0, 2, 5);
        x.finger(1, 9, ARCH);
        x.finger(2, 9, WHORL);
        rare("3 by 5 by 3 by 5", x, 0, 9, 25);
        Due.rules(x, 0, "strike if guilty");
        x.tell(0, 2);
        x.days(1);
        rare("a struck one does not count itself: 2 by 4 by 2 by 4", x, 0, 1, 4);
        rare("nor for others: 2 by 4 by 2 by 4", x, 2, 1, 4);
        rare("others count: 2 by 4 by 2 by 3 by 2 by 4", x, 1, 1, 6);
        Due.outside("card 3", () -> x.rare(3, true));
        Due.outside("card -1", () -> x.rare(-1, false));
        rareOfMany();
    }

    private static void rareOfMany() {
        RidgeBureau x = bureau();
        for (int c = 0; c < 16; c++) {
            x.card(c);
            for (int f = 0; f < 10; f++) {
                x.finger(c, f, c == 0 ? LEFT : RIGHT);
            }
        }
        rare("2 by 18, ten times", x, 0, 1, 3486784401L);
        rare("16 by 18, ten times", x, 1, 1073741824L, 3486784401L);
    }

    public static void main(String[] args) {
        promise16();
        promise17();
        promise18();
        promise19();
        promise20();
        promise21();
        promise22();
        promise36();
        promise39();
        Due.end();
    }
}
