/** Promises 42 to 44: the image, going back to it, and counts. */
public final class ImagePromises {
    private static RidgeBureau bureau() {
        RidgeBureau x = new RidgeBureau();
        Due.print(x, Due.ARCH);
        Due.print(x, Due.LEFT);
        x.point(0, 20, 20, 0, 0);
        x.mark(0, 0, 63, 63, true);
        x.spot(0, 20, 20, 0, 0);
        x.card(5);
        x.finger(0, 0, 0);
        x.finger(0, 1, 0);
        Due.rules(x, 0, "same if pairs>0;keep 9;strike if cleared");
        x.say(0, 0, 0, 0, 0);
        x.desk(1);
        x.days(1);
        return x;
    }

    private static final int[] COUNTS = {1, 2, 1, 1, 1, 1, 3, 1, 1, 1, 1, 1};

    private static void asItWas(String when, RidgeBureau x) {
        for (int what = 0; what < COUNTS.length; what++) {
            Due.is(when + ": count " + what, COUNTS[what], x.count(what));
        }
        Due.is(when + ": pairs", 1, x.lay(0, 0, 0));
        Due.is(when + ": against", 0, x.lay(0, 0, 1));
        Due.is(when + ": turn", 0, x.lay(0, 0, 2));
        Due.is(when + ": a hit's pairs", 1, x.hit(0, 4));
        Due.is(when + ": check", -1, x.check());
        Due.is(when + ": left", 1, x.left(0));
        Due.is(when + ": said", 0, x.said(0, 0, 0, 0, 1));
        Due.is(when + ": struck", -1, x.look(0, 2));
        Due.is(when + ": fingers", 2, x.look(0, 3));
        Due.is(when + ": doubtful", 0, x.look(0, 4));
        Due.is(when + ": kept", 9, x.kept(0, 1));
        Due.is(when + ": why", 0, x.why(0, 0, 1));
    }

    private static void change(RidgeBureau x) {
        x.slack(3);
        Due.print(x, Due.WHORL);
        x.point(0, 40, 40, 1, 0);
        x.spot(0, 50, 50, 1, 5);
        x.mark(0, 0, 1, 1, false);
        x.spot(1, 1, 1, 1, 1);
        x.card(6);
        x.finger(1, 0, 1);
        x.finger(0, 0, 2);
        x.finger(0, 2, 1);
        x.doubt(0, 0, 4);
        x.tell(0, 1);
        x.say(0, 0, 0, 0, 1);
        x.tear(0, 2);
        Due.rules(x, 1, "doubt if pairs<9;strike if cleared");
        x.desk(30);
        x.days(2);
        // by turn 3 the mark's (50, 50) comes upon (40, 40), and nothing is left in what is clear on both
        Due.is("turn, with the points that came", 3, x.lay(0, 0, 2));
    }

    private static void promise42and43() {
        RidgeBureau x = bureau();
        asItWas("at first", x);
        Due.is("back without an image", false, x.back());
        asItWas("as nothing happens", x);
        x.image();
        change(x);
        Due.is("today", 3, x.count(0));
        Due.is("struck", 2, x.look(0, 2));
        Due.is("back", true, x.back());
        asItWas("back", x);
        change(x);
        Due.is("back again", true, x.back());
        asItWas("back again", x);
        Due.is("back at once", true, x.back());
        asItWas("back at once", x);
        Due.is("a print that comes anew", 2, Due.print(x, Due.RIGHT));
        Due.is("its pattern", 3, x.pattern(2));
        Due.is("it has no points", 0, x.point(2, 1, 1, 1, 1));
        Due.is("a mark that comes anew", 1, x.mark(0, 0, 63, 63, false));
        Due.is("it has no points", 0, x.lay(1, 2, 0));
        Due.is("a point", 0, x.spot(1, 1, 1, 1, 1));
        Due.is("a card that comes anew", 1, x.card(9));
        Due.is("it is missing all", 0, x.look(1, 3));
        Due.is("it has a name", 9, x.look(1, 0));
        x.image();
        change(x);
        x.back();
        Due.is("the image is the latest", 3, x.count(1));
        Due.is("and has what came", 2, x.count(2));
        Due.is("and its points", 1, x.lay(1, 2, 0));
        notInTheImage();
        deeper();
    }

    private static void notInTheImage() {
        RidgeBureau x = bureau();
        Due.write(x, "0/");
        x.image();
        Due.illegal("print", x::print);
        Due.is("fault", 1, x.fault());
        x.feed(0, 0, 0, 0, 0);
        x.back();
        Due.is("fault stays", 1, x.fault());
        Due.is("the tape stays", true, x.end(20));
        Due.is("and has no more", 40, x.feed(0, 0, 0, 0, 0));
    }

    /** Rules, sayings, hits and what was compared are those of the image. */
    private static void deeper() {
        RidgeBureau x = bureau();
        x.image();
        Due.rules(x, 1, "same if pairs>7");
        x.back();
        Due.rules(x, 1, "doubt if not grave;doubt if grave");
        Due.is("by the text that came anew", 1, x.why(0, 0, 1));
        x.back();
        Due.is("by the text that is back", 0, x.why(0, 0, 1));
        x.say(3, 0, 0, 1, 2);
        x.back();
        Due.is("a saying that is gone", -1, x.said(3, 0, 0, 1, 5));
        x.say(4, 0, 0, 1, 2);
        Due.is("one that came anew", 2, x.said(4, 0, 0, 1, 5));
        x.days(1);
        Due.is("hits", 2, x.count(8));
        Due.is("none left", 0, x.left(0));
        x.back();
        Due.is("hits", 1, x.count(8));
        Due.is("one left", 1, x.left(0));
        x.days(1);
        Due.is("finger", 1, x.hit(1, 2));
        Due.is("comparisons", 2, x.count(9));
        x.tear(1, 4);
        x.back();
        x.days(1);
        Due.is("not torn", 1, x.hit(1, 4));
    }

    private static void promise44() {
        RidgeBureau x = bureau();
        for (int what = 0; what < COUNTS.length; what++) {
            Due.is("count " + what, COUNTS[what], x.count(what));
        }
        for (int what : new int[] {12, -1, Integer.MIN_VALUE, Integer.MAX_VALUE}) {
            Due.is("count " + what, -1, x.count(what));
        }
        change(x);
        int[] due = {3, 3, 2, 1, 2, 2, 2, 2, 9, 9, 3, 30};
        for (int what = 0; what < due.length; what++) {
            Due.is("count " + what, due[what], x.count(what));
        }
    }

    public static void main(String[] args) {
        promise42and43();
        promise44();
        Due.end();
    }
}
