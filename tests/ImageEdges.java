/** Promises 42 to 44 on their edges: the image, going back to it, and counts. */
public final class ImageEdges {
    private static final int MIN = Integer.MIN_VALUE;
    private static final int MAX = Integer.MAX_VALUE;
    private static final int BLANKS = 0x20202020;

    private static void counts(String when, RidgeBureau x, int... due) {
        for (int what = 0; what < due.length; what++) {
            Due.is(when + ": count " + what, due[what], x.count(what));
        }
    }

    // ---- promise 43: without an image

    private static void noImage() {
        Due.is("a new object", false, new RidgeBureau().back());
        Twins.same("back without an image", ImageEdges::imageless, x -> Due.is("back", false, x.back()));
        RidgeBureau x = new RidgeBureau();
        imageless(x);
        Due.is("back", false, x.back());
        x.image();
        Due.is("back with one", true, x.back());
        Due.is("back with one again", true, x.back());
    }

    private static void imageless(RidgeBureau x) {
        Due.print(x, Due.LEFT);
        x.mark(0, 0, 63, 63, true);
        x.spot(0, 20, 20, 0, 0);
        x.point(0, 20, 20, 0, 0);
        x.card(3);
        x.finger(0, 0, 0);
        Due.rules(x, 0, "doubt if pairs>0;keep 4");
        x.days(2);
        x.say(0, 0, 0, 0, 1);
        Due.write(x, "?");
        Due.illegal("a wrong text", x::print);
        Due.write(x, Due.TENT);
    }

    // ---- promise 42: the image of an object that has nothing, and of one that has as much as may be

    private static void imageOfNothing() {
        RidgeBureau x = new RidgeBureau();
        x.image();
        imageless(x);
        x.slack(8);
        x.desk(60);
        Due.is("back", true, x.back());
        counts("back to nothing", x, 0, 0, 0, 0, 0, 0, 0, 0, 0, 0, 1, 10);
        Due.outside("print 0", () -> x.pattern(0));
        Due.outside("mark 0", () -> x.left(0));
        Due.outside("card 0", () -> x.look(0, 0));
        Due.noSuch("hit 0", () -> x.hit(0, 0));
        Due.is("fault is not of the image", 0, x.fault());
        Due.is("nor is the tape, with its 71 bytes", true, x.end(71));
        Due.is("it is the field of a tent", 0, x.print());
        Due.is("its pattern", 1, x.pattern(0));
        Due.is("its first point", 0, x.point(0, 9, 9, 0, 0));
        Due.is("mark 0", 0, x.mark(0, 0, 63, 63, false));
        Due.is("it has no point", 0, x.lay(0, 0, 0));
        Due.is("card 0", 0, x.card(1));
        Due.is("it is not taken ahead of today", 0, x.look(0, 1));
        Due.is("nobody says anything of it", -1, x.said(0, 0, 0, 0, 9));
    }

    /** 60 prints, 20 marks, 16 cards, 10 texts, 8 points, 4 doubtful fingers, a full tape: some 390 calls. */
    private static void full(RidgeBureau x) {
        int[] text = new int[20];
        String field = Due.WHORL + " ".repeat(9);
        for (int i = 0; i < 80; i++) {
            text[i / 4] |= field.charAt(i) << 24 - i % 4 * 8;
        }
        for (int i = 0; i < 60; i++) {
            for (int n = 0; n < 20; n += 5) {
                x.feed(text[n], text[n + 1], text[n + 2], text[n + 3], text[n + 4]);
            }
            x.print();
        }
        for (int i = 0; i < 20; i++) {
            x.mark(i, i, 40, 40, true);
        }
        for (int i = 0; i < 16; i++) {
            x.card(i);
            x.finger(i, 9, 44 + i);
        }
        for (int i = 0; i < 10; i++) {
            x.rules(i);
        }
        for (int i = 0; i < 8; i++) {
            x.point(59, 20 + i, 20, 0, 0);
            x.spot(19, 20 + i, 20, 0, 0);
        }
        for (int f = 0; f < 4; f++) {
            x.doubt(15, f, f);
        }
    }

    private static void imageOfAll() {
        RidgeBureau x = new RidgeBureau();
        full(x);
        x.image();
        x.slack(0);
        x.desk(3);
        x.days(2);
        x.finger(15, 9, 0);
        x.doubt(15, 0, -1);
        x.tell(15, 0);
        Due.is("back", true, x.back());
        counts("back to all", x, 0, 60, 16, 16, 20, 10, 0, 0, 0, 0, 1, 10);
        Due.is("finger 9 of card 15", false, x.finger(15, 9, 59));
        Due.is("doubtful fingers of card 15", 4, x.look(15, 4));
        Due.is("told of card 15", true, x.tell(15, 0));
        Due.is("mark 19 on print 59", 8, x.lay(19, 59, 0));
        Due.is("a 9th point", -1, x.point(59, 1, 1, 1, 1));
        Due.is("a 9th spot", -1, x.spot(19, 1, 1, 1, 1));
        Due.is("a fifth doubtful finger", false, x.doubt(15, 4, 1));
        Due.unsupported("an 11th text", () -> x.rules(0));
        Due.unsupported("a 21st mark", () -> x.mark(0, 0, 1, 1, true));
        Due.unsupported("a 17th card", () -> x.card(1));
        Due.is("left of mark 19", 16, x.left(19));
    }

    /** One image: a later one takes its place; what is refused, or gone back to, keeps it. */
    private static void latestImage() {
        RidgeBureau x = new RidgeBureau();
        x.card(1);
        x.image();
        x.card(2);
        x.image();
        x.card(3);
        x.back();
        Due.is("cards of the second image", 2, x.count(2));
        x.card(4);
        x.card(5);
        Due.is("the name of the new third card", 4, x.look(2, 0));
        x.back();
        Due.is("cards of the second image still", 2, x.count(2));
        x.image();
        x.card(6);
        x.days(3);
        x.back();
        Due.is("cards of the third image", 2, x.count(2));
        Due.is("today of the third image", 0, x.count(0));
        Due.is("name of card 1", 2, x.look(1, 0));
    }

    private static void tapeAndFault() {
        RidgeBureau x = new RidgeBureau();
        x.image();
        Due.write(x, "01?");
        Due.illegal("print", x::print);
        x.feed(0x6E656564, 0x20312020, BLANKS, BLANKS, BLANKS);
        Due.is("back", true, x.back());
        Due.is("fault stays", 2, x.fault());
        Due.is("the tape stays", 1, x.rules(0));
        x.image();
        for (int i = 0; i < 20; i++) {
            x.feed(BLANKS, BLANKS, BLANKS, BLANKS, BLANKS);
        }
        x.back();
        Due.is("a full tape stays", -1, x.feed(0, 0, 0, 0, 0));
        Due.is("of 400 bytes", true, x.end(400));
        Due.is("of blanks", 0, x.rules(0));
        x.back();
        Due.is("an empty one stays", false, x.end(1));
        Due.is("a right text's fault stays", -1, x.fault());
    }

    /** Whatever may change behind the image is as it was: each change by itself, told by the answers of Twins. */
    private static void eachChange() {
        Twins.Script[] changes = {
            x -> x.point(0, 40, 40, 0, 0), x -> x.spot(0, 40, 40, 0, 0), x -> x.slack(7), x -> x.desk(2),
            x -> x.mark(0, 0, 1, 1, true), x -> x.card(1), x -> x.finger(0, 0, 1), x -> x.finger(0, 0, -1),
            x -> x.doubt(0, 1, 2), x -> x.doubt(0, 0, -1), x -> x.say(0, 0, 0, 0, 0), x -> x.tell(0, 2),
            x -> x.tear(1, 9), x -> x.days(1), x -> x.days(30),
        };
        for (int i = 0; i < changes.length; i++) {
            Twins.Script change = changes[i];
            Twins.same("back behind change " + i, x -> {
                Past.rich(x);
                x.image();
            }, x -> {
                change.on(x);
                x.lay(0, 0, 0);
                x.persons(3, false);
                Due.is("back", true, x.back());
            });
        }
        Twins.sameButTape("back behind a print", -1, x -> {
            Past.rich(x);
            x.image();
        }, x -> {
            Due.is("print", 3, x.print());
            x.back();
        });
        Twins.sameButTape("back behind rules", -1, x -> {
            Past.rich(x);
            x.image();
            x.end(0);
        }, x -> {
            Due.rules(x, 3, "same if pairs<9;fingers 1;strike if age>0");
            x.back();
        });
    }

    // ---- promise 44

    private static void whats() {
        for (int what : new int[] {-1, 12, 13, MIN, MAX}) {
            Due.is("count " + what + " of a new object", -1, new RidgeBureau().count(what));
            Twins.same("count " + what, Past::rich, x -> Due.is("count", -1, x.count(what)));
        }
    }

    private static void eachCount() {
        RidgeBureau x = new RidgeBureau();
        counts("at first", x, 0, 0, 0, 0, 0, 0, 0, 0, 0, 0, 1, 10);
        Due.print(x, Due.ARCH);
        counts("a print", x, 0, 1, 0, 0, 0, 0, 0, 0, 0, 0, 1, 10);
        x.card(1);
        counts("a card", x, 0, 1, 1, 1, 0, 0, 0, 0, 0, 0, 1, 10);
        x.mark(0, 0, 1, 1, false);
        counts("a mark", x, 0, 1, 1, 1, 1, 0, 0, 0, 0, 0, 1, 10);
        Due.rules(x, 0, "doubt if pairs<1;need 1;strike if age>1");
        counts("a text", x, 0, 1, 1, 1, 1, 1, 3, 0, 0, 0, 1, 10);
        Due.rules(x, 2, "strike if age>1");
        counts("a text from day 2 on", x, 0, 1, 1, 1, 1, 2, 3, 0, 0, 0, 1, 10);
        x.finger(0, 0, 0);
        x.say(0, 0, 0, 0, 2);
        counts("a saying", x, 0, 1, 1, 1, 1, 2, 3, 1, 0, 0, 1, 10);
        x.slack(0);
        x.desk(0);
        counts("slack and desk", x, 0, 1, 1, 1, 1, 2, 3, 1, 0, 0, 0, 0);
        x.slack(8);
        x.desk(60);
        x.days(1);
        counts("a day", x, 1, 1, 1, 1, 1, 2, 3, 1, 1, 1, 8, 60);
        x.finger(0, 1, 0);
        x.days(1);
        counts("a comparison that is no hit, a card that is struck", x, 2, 1, 1, 0, 1, 2, 1, 1, 1, 2, 8, 60);
    }

    public static void main(String[] args) {
        Edge.of(43, "false, and nothing happens, if none was kept", ImageEdges::noImage);
        Edge.of(42, "THE IMAGE is kept.", ImageEdges::imageOfNothing);
        Edge.ofTerms("THE IMAGE (one) of all may be kept", ImageEdges::imageOfAll);
        Edge.ofTerms("THE IMAGE (one)", ImageEdges::latestImage);
        Edge.ofTerms("(but for the TAPE, fault() and THE IMAGE itself)", ImageEdges::tapeAndFault);
        Edge.of(43, "One goes back to THE IMAGE: true", ImageEdges::eachChange);
        Edge.of(44, "NONE for another what.", ImageEdges::whats);
        Edge.of(44, "0 TODAY, 1 PRINTS, 2 CARDS, 3 of them in the file, 4 MARKS, 5 texts of RULES, 6 RULES of TODAY,"
                + " 7 sayings, 8 HITS, 9 COMPARISONS in all, 10 SLACK, 11 COMPARISONS a DAY.", ImageEdges::eachCount);
        Edge.end(42, 43, 44);
    }
}
