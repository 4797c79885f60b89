import java.util.ArrayList;
import java.util.List;

/** The paragraph on exceptions: which one is thrown, by which calls, and what stands behind a call that throws. */
public final class RefusalEdges {
    private static final int MIN = Integer.MIN_VALUE;
    private static final int MAX = Integer.MAX_VALUE;

    private interface Kind {
        void due(String what, Due.Call call);
    }

    private interface CallOn {
        void on(RidgeBureau x);
    }

    private record Refusal(String what, Kind kind, CallOn call) {
        void on(RidgeBureau x) {
            kind.due(what, () -> call.on(x));
        }
    }

    // ---- there is no such ...

    /** Calls that take a print, a cell, a corner and so on, each with that alone wrong. */
    private static List<Refusal> withNumber(int n, int prints, int marks, int cards) {
        List<Refusal> all = new ArrayList<>();
        if (n < 0 || n >= prints) {
            add(all, "field of print " + n, x -> x.field(n, 0));
            add(all, "turn of print " + n, x -> x.turn(n, 0));
            add(all, "pattern of print " + n, x -> x.pattern(n));
            add(all, "core of print " + n, x -> x.singular(n, 0, false));
            add(all, "delta of print " + n, x -> x.singular(n, 0, true));
            add(all, "ridges of print " + n, x -> x.ridges(n));
            add(all, "point of print " + n, x -> x.point(n, 0, 0, 0, 0));
            add(all, "lay on print " + n, x -> x.lay(0, n, 0));
            add(all, "verdict upon print " + n, x -> x.verdict(0, n, 0));
            add(all, "why upon print " + n, x -> x.why(0, n, 0));
        }
        if (n < -1 || n >= prints) {
            add(all, "finger of print " + n, x -> x.finger(0, 0, n));
        }
        if (n < 0 || n >= marks) {
            add(all, "spot of mark " + n, x -> x.spot(n, 0, 0, 0, 0));
            add(all, "lay of mark " + n, x -> x.lay(n, 0, 0));
            add(all, "verdict of mark " + n, x -> x.verdict(n, 0, 0));
            add(all, "why of mark " + n, x -> x.why(n, 0, 0));
            add(all, "say of mark " + n, x -> x.say(0, n, 0, 0, 0));
            add(all, "said of mark " + n, x -> x.said(0, n, 0, 0, 0));
            add(all, "proved of mark " + n, x -> x.proved(n, 0, 0, 0));
            add(all, "left of mark " + n, x -> x.left(n));
        }
        if (n < 0 || n >= cards) {
            withCard(all, n);
        }
        return all;
    }

    private static void withCard(List<Refusal> all, int n) {
        add(all, "finger of card " + n, x -> x.finger(n, 0, 0));
        add(all, "missing finger of card " + n, x -> x.finger(n, 0, -1));
        add(all, "doubt of card " + n, x -> x.doubt(n, 0, 0));
        add(all, "kind of card " + n, x -> x.kind(n, 0));
        add(all, "upper of card " + n, x -> x.number(n, false));
        add(all, "lower of card " + n, x -> x.number(n, true));
        add(all, "drawers of card " + n, x -> x.drawers(n));
        add(all, "like of card " + n, x -> x.like(n, 0));
        add(all, "say of card " + n, x -> x.say(0, 0, n, 0, 0));
        add(all, "said of card " + n, x -> x.said(0, 0, n, 0, 0));
        add(all, "proved of card " + n, x -> x.proved(0, n, 0, 0));
        add(all, "alike of card " + n, x -> x.alike(n, 0, 0));
        add(all, "alike with card " + n, x -> x.alike(0, n, 0));
        add(all, "person of card " + n, x -> x.person(n, 0));
        add(all, "tell of card " + n, x -> x.tell(n, 0));
        add(all, "kept of card " + n, x -> x.kept(n, 0));
        add(all, "look at card " + n, x -> x.look(n, 0));
        add(all, "rare of card " + n, x -> x.rare(n, true));
    }

    private static void within(List<Refusal> all) {
        for (int n : new int[] {-1, 64, MIN, MAX}) {
            add(all, "cell " + n, x -> x.field(0, n));
        }
        for (int n : new int[] {-1, 49, MIN, MAX}) {
            add(all, "corner " + n, x -> x.turn(0, n));
        }
        for (int n : new int[] {-1, 10, MIN, MAX}) {
            add(all, "finger " + n, x -> x.finger(0, n, 0));
            add(all, "missing finger " + n, x -> x.finger(0, n, -1));
            add(all, "doubt of finger " + n, x -> x.doubt(0, n, 0));
            add(all, "kind of finger " + n, x -> x.kind(0, n));
            add(all, "say of finger " + n, x -> x.say(0, 0, 0, n, 0));
            add(all, "said of finger " + n, x -> x.said(0, 0, 0, n, 0));
            add(all, "proved of finger " + n, x -> x.proved(0, 0, n, 0));
        }
        for (int n : new int[] {-1, 6, MIN, MAX}) {
            add(all, "say of examiner " + n, x -> x.say(n, 0, 0, 0, 0));
            add(all, "said of examiner " + n, x -> x.said(n, 0, 0, 0, 0));
        }
    }

    private static void add(List<Refusal> all, String what, CallOn call) {
        all.add(new Refusal(what, Due::outside, call));
    }

    /** The rich past has prints 0 to 2, marks 0 to 2, cards 0 to 3. */
    private static void noSuch() {
        List<Refusal> all = new ArrayList<>();
        for (int n : new int[] {-2, -1, 3, 4, 16, 20, 60, MIN, MAX}) {
            all.addAll(withNumber(n, 3, 3, 4));
        }
        within(all);
        for (Refusal refusal : all) {
            Twins.same(refusal.what, Past::rich, refusal::on);
        }
        // where there is nothing, 0 is none
        for (int n : new int[] {-1, 0, 1}) {
            RidgeBureau x = new RidgeBureau();
            withNumber(n, 0, 0, 0).forEach(refusal -> refusal.on(x));
        }
        Due.is("finger of no print of no card", -1, new RidgeBureau().fault());
    }

    // ---- several exceptions

    private static Refusal outside(String what, CallOn call) {
        return new Refusal(what, Due::outside, call);
    }

    private static Refusal illegal(String what, CallOn call) {
        return new Refusal(what, Due::illegal, call);
    }

    private static void firstTold() {
        List<Refusal> all = List.of(
                outside("point of no print, no number", x -> x.point(3, 64, 0, 0, 0)),
                outside("spot of no mark, no number", x -> x.spot(3, 0, 0, 3, 0)),
                outside("lay of no mark, another what", x -> x.lay(3, 0, 5)),
                outside("lay on no print, another what", x -> x.lay(0, 3, -1)),
                outside("doubt of no card, no class", x -> x.doubt(4, 0, 8)),
                outside("doubt of no finger, no class", x -> x.doubt(0, 10, -2)),
                outside("say of no examiner, another what", x -> x.say(6, 0, 0, 0, 3)),
                outside("say of no mark, another what", x -> x.say(0, 3, 0, 0, 3)),
                outside("say of no card, another what", x -> x.say(0, 0, 4, 0, -1)),
                outside("say of no finger, another what", x -> x.say(0, 0, 0, 10, 3)),
                outside("tell of no card, another what", x -> x.tell(4, 3)),
                outside("look at no card, another what", x -> x.look(4, 6)),
                illegal("say of a missing finger, another what", x -> x.say(0, 0, 0, 1, 3)),
                new Refusal("hit that is none, another what", Due::noSuch, x -> x.hit(999, 6)));
        for (Refusal refusal : all) {
            Twins.same(refusal.what, Past::rich, refusal::on);
        }
    }

    /** All is full: a wrong number is told ahead of there being so many. */
    private static void firstToldWhenFull() {
        RidgeBureau x = new RidgeBureau();
        for (int i = 0; i < 20; i++) {
            x.mark(0, 0, 1, 1, false);
        }
        Due.illegal("a wrong 21st mark", () -> x.mark(1, 0, 0, 1, false));
        Due.unsupported("a 21st mark", () -> x.mark(0, 0, 1, 1, false));
        for (int i = 0; i < 16; i++) {
            x.card(i);
        }
        Due.illegal("a wrong 17th card", () -> x.card(-1));
        Due.unsupported("a 17th card", () -> x.card(0));
        for (int i = 0; i < 10; i++) {
            x.rules(0);
        }
        Due.write(x, "x");
        Due.illegal("a wrong 11th text, from a wrong day", () -> x.rules(-1));
        Due.is("its text is not read", -1, x.fault());
        Due.write(x, " x");
        Due.illegal("a wrong 11th text", () -> x.rules(0));
        Due.is("its text is read", 1, x.fault());
        Due.illegal("an 11th text, from a wrong day", () -> x.rules(2001));
        Due.is("its text is not read", 1, x.fault());
        Due.unsupported("an 11th text", () -> x.rules(0));
        Due.is("its text is read", -1, x.fault());
        RidgeBureau y = new RidgeBureau();
        for (int i = 0; i < 60; i++) {
            Due.print(y, Due.ARCH);
        }
        Due.write(y, "0");
        Due.illegal("a wrong 61st print", y::print);
        Due.is("its text is read", 1, y.fault());
        Due.write(y, Due.ARCH);
        Due.unsupported("a 61st print", y::print);
        Due.is("its text is read", -1, y.fault());
    }

    public static void main(String[] args) {
        Edge.ofTerms("IndexOutOfBoundsException: there is no such PRINT, CELL, CORNER, CARD, FINGER, MARK, EXAMINER.",
                RefusalEdges::noSuch);
        Edge.ofTerms("Of several exceptions the one told first is thrown", RefusalEdges::firstTold);
        Edge.ofTerms("Of several exceptions the one told first is thrown", RefusalEdges::firstToldWhenFull);
        Edge.end();
    }
}
