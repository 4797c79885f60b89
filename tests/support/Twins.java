import java.util.ArrayList;
import java.util.List;

/**
 * What stands behind a refused call: of two objects with one past, one is refused a call, and the other is not
 * asked it. From then on both must answer alike, whatever is asked. As an object is used for 512 calls alone,
 * each group of questions has two objects of its own: a past has at most 330 calls, a group at most 170.
 */
final class Twins {
    interface Script {
        void on(RidgeBureau x);
    }

    private interface Question {
        long ask();
    }

    private interface Group {
        void ask(RidgeBureau x, Answers to);
    }

    private static final class Answers {
        final List<String> all = new ArrayList<>();

        void note(String call, Question question) {
            String answer;
            try {
                answer = String.valueOf(question.ask());
            } catch (RuntimeException e) {
                answer = e.getClass().getSimpleName();
            }
            all.add(call + " = " + answer);
        }
    }

    private static final Group[] GROUPS = {
        Twins::counts, Twins::tapeAsField, Twins::tapeAsRules, Twins::prints, Twins::lays, Twins::points, Twins::room,
        Twins::cards, Twins::lastCards, Twins::verdicts, Twins::sayings, Twins::persons, Twins::hits, Twins::aDay,
        Twins::manyDays, Twins::theImage, Twins::whatIsTold,
    };

    private Twins() {
    }

    /** The refused call changes nothing at all. */
    static void same(String what, Script past, Script refused) {
        compare(what, past, refused, x -> { });
    }

    /** The refused call uses the tape up, tells a fault (or none, if it is NONE), and changes nothing else. */
    static void sameButTape(String what, int fault, Script past, Script refused) {
        RidgeBureau one = new RidgeBureau();
        past.on(one);
        refused.on(one);
        Due.is(what + ": fault", fault, one.fault());
        Due.is(what + ": the tape is used up", false, one.end(1));
        // whatever the texts ahead of it told, both must have the same fault: a wrong text is put on both and read
        Script wrongText = x -> {
            x.end(0);
            Due.write(x, "?");
            Due.illegal(what + ": a wrong text", x::print);
        };
        compare(what, past, x -> {
            refused.on(x);
            wrongText.on(x);
        }, wrongText);
    }

    private static void compare(String what, Script past, Script refused, Script instead) {
        for (Group group : GROUPS) {
            List<String> got = answers(group, past, refused);
            List<String> due = answers(group, past, instead);
            for (int i = 0; i < Math.min(got.size(), due.size()); i++) {
                if (!got.get(i).equals(due.get(i))) {
                    Due.is(what + ": behind the refused call " + got.get(i) + ", without it " + due.get(i)
                            + "; answers unlike", 0, 1);
                    break;
                }
            }
            Due.is(what + ": answers", due.size(), got.size());
        }
    }

    private static List<String> answers(Group group, Script past, Script last) {
        RidgeBureau x = new RidgeBureau();
        past.on(x);
        last.on(x);
        Answers to = new Answers();
        group.ask(x, to);
        return to.all;
    }

    /** The first ones and the last one of so many; one that there is not, if there are none. */
    private static int[] some(int first, int count) {
        int[] all = new int[Math.max(1, Math.min(first + 1, count))];
        for (int i = 0; i < all.length; i++) {
            all[i] = i == first ? count - 1 : i;
        }
        return all;
    }

    private static long bit(boolean b) {
        return b ? 1 : 0;
    }

    private static void counts(RidgeBureau x, Answers to) {
        for (int what = 0; what <= 12; what++) {
            int n = what;
            to.note("count " + n, () -> x.count(n));
        }
        to.note("fault", x::fault);
        to.note("feed", () -> x.feed(0x20202020, 0x20202020, 0x20202020, 0x20202020, 0x20202020));
        to.note("check", x::check);
        to.note("persons", () -> x.persons(0, false));
    }

    private static void tapeAsField(RidgeBureau x, Answers to) {
        to.note("print", x::print);
        to.note("fault", x::fault);
        int last = x.count(1) - 1;
        for (int cell = 0; cell < 64; cell++) {
            int n = cell;
            to.note("field " + n, () -> x.field(last, n));
        }
    }

    private static void tapeAsRules(RidgeBureau x, Answers to) {
        to.note("rules", () -> x.rules(2000));
        to.note("fault", x::fault);
        to.note("texts", () -> x.count(5));
        to.note("feed", () -> x.feed(0, 0, 0, 0, 0));
    }

    private static void prints(RidgeBureau x, Answers to) {
        for (int p : some(3, x.count(1))) {
            to.note("pattern of " + p, () -> x.pattern(p));
            to.note("ridges of " + p, () -> x.ridges(p));
            for (int i = 0; i < 4; i++) {
                int n = i;
                to.note("core " + n + " of " + p, () -> x.singular(p, n, false));
                to.note("delta " + n + " of " + p, () -> x.singular(p, n, true));
                to.note("turn " + n * 16 + " of " + p, () -> x.turn(p, n * 16));
                to.note("field " + n * 21 + " of " + p, () -> x.field(p, n * 21));
            }
        }
    }

    private static void lay(RidgeBureau x, Answers to, int m, int p) {
        for (int i = 0; i < 5; i++) {
            int what = i;
            to.note("lay " + m + " on " + p + ", " + what, () -> x.lay(m, p, what));
        }
    }

    private static void lays(RidgeBureau x, Answers to) {
        for (int m : some(3, x.count(4))) {
            for (int p : some(3, x.count(1))) {
                lay(x, to, m, p);
            }
        }
    }

    /** A new mark, if there is room, tells where points of prints lie. */
    private static void points(RidgeBureau x, Answers to) {
        to.note("mark", () -> x.mark(0, 0, 63, 63, true));
        int m = x.count(4) - 1;
        to.note("spot", () -> x.spot(m, 30, 30, 2, 4));
        to.note("spot", () -> x.spot(m, 20, 20, 2, 0));
        for (int p : some(4, x.count(1))) {
            lay(x, to, m, p);
        }
        to.note("slack", () -> {
            x.slack(3);
            return x.count(10);
        });
        for (int p : some(4, x.count(1))) {
            lay(x, to, m, p);
        }
    }

    private static void room(RidgeBureau x, Answers to) {
        for (int n : some(3, x.count(1))) {
            to.note("point of " + n, () -> x.point(n, 1, 1, 1, 1));
        }
        for (int n : some(3, x.count(4))) {
            to.note("spot of " + n, () -> x.spot(n, 1, 1, 1, 1));
        }
        to.note("mark", () -> x.mark(0, 0, 5, 5, true));
        to.note("card", () -> x.card(7));
        to.note("end", () -> bit(x.end(0)));
        to.note("rules", () -> x.rules(2000));
        to.note("print", x::print);
        for (int what = 0; what <= 12; what++) {
            int n = what;
            to.note("count " + n, () -> x.count(n));
        }
    }

    private static void card(RidgeBureau x, Answers to, int c) {
        for (int i = 0; i < 6; i++) {
            int what = i;
            to.note("look " + c + ", " + what, () -> x.look(c, what));
        }
        for (int i = 0; i < 10; i++) {
            int f = i;
            to.note("kind " + c + ", " + f, () -> x.kind(c, f));
        }
        for (int i = 0; i < 3; i++) {
            int n = i;
            to.note("like " + c + ", " + n, () -> x.like(c, n));
        }
        to.note("upper of " + c, () -> x.number(c, false));
        to.note("lower of " + c, () -> x.number(c, true));
        to.note("drawers of " + c, () -> x.drawers(c));
        to.note("rare above of " + c, () -> x.rare(c, false));
        to.note("rare below of " + c, () -> x.rare(c, true));
    }

    private static void cards(RidgeBureau x, Answers to) {
        for (int c : some(3, x.count(2))) {
            card(x, to, c);
        }
    }

    private static void lastCards(RidgeBureau x, Answers to) {
        for (int c = Math.max(0, x.count(2) - 4); c < x.count(2); c++) {
            int its = c;
            for (int i = 0; i < 10; i++) {
                int f = i;
                to.note("finger " + its + ", " + f, () -> bit(x.finger(its, f, 0)));
                to.note("doubt " + its + ", " + f, () -> bit(x.doubt(its, f, 3)));
            }
            to.note("doubtful of " + its, () -> x.look(its, 4));
        }
    }

    private static void verdicts(RidgeBureau x, Answers to) {
        int today = x.count(0);
        for (int day : new int[] {today, today + 1}) {
            for (int m : some(2, x.count(4))) {
                for (int p : some(3, x.count(1))) {
                    to.note("verdict " + m + ", " + p + ", " + day, () -> x.verdict(m, p, day));
                    to.note("why " + m + ", " + p + ", " + day, () -> x.why(m, p, day));
                }
            }
            for (int c : some(3, x.count(2))) {
                to.note("kept " + c + ", " + day, () -> x.kept(c, day));
            }
        }
    }

    private static void sayings(RidgeBureau x, Answers to) {
        int today = x.count(0);
        for (int m : some(1, x.count(4))) {
            for (int c : some(2, x.count(2))) {
                for (int f : new int[] {0, 1, 9}) {
                    for (int i = 0; i < 6; i++) {
                        int e = i;
                        to.note("said " + e + ", " + m + ", " + c + ", " + f, () -> x.said(e, m, c, f, today));
                    }
                    to.note("proved " + m + ", " + c + ", " + f, () -> bit(x.proved(m, c, f, today)));
                }
            }
        }
        to.note("say", () -> x.say(0, 0, 0, 0, 1));
    }

    private static void persons(RidgeBureau x, Answers to) {
        int today = x.count(0);
        for (int a : some(3, x.count(2))) {
            for (int b : some(3, x.count(2))) {
                to.note("alike " + a + ", " + b, () -> x.alike(a, b, today));
            }
        }
        for (int day : new int[] {0, today, today + 1}) {
            for (int c : some(3, x.count(2))) {
                to.note("person " + c + ", " + day, () -> x.person(c, day));
            }
            to.note("persons " + day, () -> x.persons(day, false));
            to.note("persons of names " + day, () -> x.persons(day, true));
        }
    }

    private static void hitsFrom(RidgeBureau x, Answers to, int first, int behind) {
        for (int h = Math.max(0, first); h < behind; h++) {
            for (int i = 0; i < 6; i++) {
                int n = h;
                int what = i;
                to.note("hit " + n + ", " + what, () -> x.hit(n, what));
            }
        }
    }

    private static void hits(RidgeBureau x, Answers to) {
        int all = x.count(8);
        hitsFrom(x, to, 0, Math.min(5, all));
        hitsFrom(x, to, all - 6, all);
        to.note("check", x::check);
        for (int m : some(5, x.count(4))) {
            to.note("left " + m, () -> x.left(m));
        }
        for (int i = 0; i <= 6; i++) {
            int row = i;
            to.note("tear " + row, () -> x.tear(row, 0));
        }
    }

    private static void behindDays(RidgeBureau x, Answers to, int days) {
        to.note("days", () -> x.days(days));
        for (int what = 0; what < 12; what++) {
            int n = what;
            to.note("count " + n, () -> x.count(n));
        }
        hitsFrom(x, to, x.count(8) - 8, x.count(8));
        for (int c : some(5, x.count(2))) {
            to.note("struck " + c, () -> x.look(c, 2));
        }
        for (int m : some(5, x.count(4))) {
            to.note("left " + m, () -> x.left(m));
        }
    }

    private static void aDay(RidgeBureau x, Answers to) {
        behindDays(x, to, 1);
        behindDays(x, to, 1);
    }

    private static void manyDays(RidgeBureau x, Answers to) {
        x.desk(60);
        behindDays(x, to, 40);
    }

    private static void theImage(RidgeBureau x, Answers to) {
        to.note("back", () -> bit(x.back()));
        counts(x, to);
        hits(x, to);
        for (int c : some(1, x.count(2))) {
            card(x, to, c);
        }
    }

    private static void whatIsTold(RidgeBureau x, Answers to) {
        for (int c : some(5, x.count(2))) {
            for (int i = 0; i < 3; i++) {
                int what = i;
                to.note("tell " + c + ", " + what, () -> bit(x.tell(c, what)));
            }
            to.note("kept " + c, () -> x.kept(c, x.count(0)));
        }
    }
}
