import java.util.ArrayList;
import java.util.List;
import java.util.Random;

/**
 * Runs of random calls on RidgeBureau and on SlowBureau: each call must answer, or throw, the same on both.
 * Exceptions are told apart by their very class, so that none of the machine's own passes for a due one.
 */
public final class RandomRuns {
    private static final int RUNS = 700;
    private static final int CALLS = 512;
    private static final String[] FIELDS = {
        "00000000/00000000/00000000/00000000/00000000/00000000/00000000/00000000",
        "00222000/00222000/00222000/00222000/66444666/66444666/66444666/66444666",
        "02222000/02222000/02222000/02222000/64444666/64444666/64444666/64444666",
        "00666000/00666000/00666000/00666000/22444222/22444222/22444222/22444222",
        "00002222/00002222/66664444/66664444/66664444/00002222/00002222/00002222",
        "02200220/02200220/02200220/02200220/64466446/64466446/64466446/64466446",
        "00002222/00002222/00002222/00002222/66664444/66664444/66664444/66664444",
    };

    private interface Call {
        long go();
    }

    private final Random random;
    private final RidgeBureau x = new RidgeBureau();
    private final SlowBureau y = new SlowBureau();
    private final List<String> past = new ArrayList<>();
    private final int profile;
    private boolean isWrong;
    private final int[][][] shapes = new int[3][8][4];

    private RandomRuns(long seed) {
        random = new Random(seed);
        profile = (int) (seed % 7);
        for (int[][] shape : shapes) {
            for (int[] point : shape) {
                point[0] = 15 + pick(20);
                point[1] = 15 + pick(20);
                point[2] = pick(3);
                point[3] = pick(16);
            }
        }
    }

    private int pick(int n) {
        return random.nextInt(n);
    }

    private boolean chance(int percent) {
        return pick(100) < percent;
    }

    /** An index that mostly stands, and now and then does not. */
    private int index(int count) {
        if (chance(2)) {
            int[] odd = {-1, count, -2, Integer.MIN_VALUE, Integer.MAX_VALUE, count + 1};
            return odd[pick(odd.length)];
        }
        return count == 0 ? pick(2) : pick(count);
    }

    private int within(int from, int to) {
        if (chance(3)) {
            int[] odd = {from - 1, to + 1, Integer.MIN_VALUE, Integer.MAX_VALUE, from, to};
            return odd[pick(odd.length)];
        }
        return from + pick(to - from + 1);
    }

    private int day() {
        if (chance(2)) {
            int[] odd = {-1, Integer.MIN_VALUE, Integer.MAX_VALUE, 2000, 2001};
            return odd[pick(odd.length)];
        }
        int today = y.count(0);
        return Math.max(-1, today - 3 + pick(7));
    }

    private static String outcome(Call call) {
        try {
            return String.valueOf(call.go());
        } catch (RuntimeException e) {
            return e.getClass().getName();
        }
    }

    private void both(String call, Call one, Call other) {
        if (isWrong || past.size() >= CALLS) {
            return;
        }
        String got = outcome(one);
        String due = outcome(other);
        past.add(call + " = " + got);
        if (!got.equals(due)) {
            isWrong = true;
            System.out.println("after " + past.size() + " calls: " + call + " answered " + got + ", due is " + due);
        }
    }

    private static long bit(boolean b) {
        return b ? 1 : 0;
    }

    private static String call(String name, Object... args) {
        StringBuilder text = new StringBuilder(name).append('(');
        for (int i = 0; i < args.length; i++) {
            text.append(i == 0 ? "" : ", ").append(args[i]);
        }
        return text.append(')').toString();
    }

    // ---- texts

    private void write(String text) {
        for (int i = 0; i < text.length(); i += 20) {
            int[] n = new int[5];
            for (int j = 0; j < 20; j++) {
                int sign = i + j < text.length() ? text.charAt(i + j) : 0;
                n[j / 4] |= sign << 24 - j % 4 * 8;
            }
            both(call("feed", n[0], n[1], n[2], n[3], n[4]), () -> x.feed(n[0], n[1], n[2], n[3], n[4]),
                    () -> y.feed(n[0], n[1], n[2], n[3], n[4]));
        }
        both(call("end", text.length()), () -> bit(x.end(text.length())), () -> bit(y.end(text.length())));
    }

    private String spoilt(String text) {
        StringBuilder spoilt = new StringBuilder(text);
        for (int i = pick(3); i >= 0; i--) {
            int at = pick(spoilt.length() + 1);
            String signs = "/.08;(<) 9aznot" + (char) 200 + (char) 0;
            char sign = signs.charAt(pick(signs.length()));
            if (chance(40) && at < spoilt.length()) {
                spoilt.setCharAt(at, sign);
            } else if (chance(50)) {
                spoilt.insert(at, sign);
            } else {
                spoilt.setLength(at);
            }
        }
        return spoilt.toString();
    }

    private String fieldText() {
        StringBuilder text = new StringBuilder(FIELDS[pick(FIELDS.length)]);
        int more = chance(50) ? pick(8) : 0;
        for (int i = 0; i < text.length(); i++) {
            if (text.charAt(i) != '/') {
                text.setCharAt(i, (char) ('0' + (text.charAt(i) - '0' + more) % 8));
            }
        }
        for (int i = chance(30) ? pick(4) : 0; i > 0; i--) {
            int at = pick(text.length());
            if (text.charAt(at) != '/') {
                text.setCharAt(at, ".01234567".charAt(pick(9)));
            }
        }
        if (chance(5)) {
            for (int i = 0; i < text.length(); i++) {
                if (text.charAt(i) != '/') {
                    text.setCharAt(i, ".0123456701234567".charAt(pick(17)));
                }
            }
        }
        for (int i = chance(10) ? pick(6) : 0; i > 0; i--) {
            text.insert(pick(text.length() + 1), ' ');
        }
        return chance(8) ? spoilt(text.toString()) : text.toString();
    }

    private void makePrint() {
        write(fieldText());
        both("print()", x::print, y::print);
        if (chance(30)) {
            both("fault()", x::fault, y::fault);
        }
    }

    private String blank() {
        return chance(15) ? "  ".substring(pick(2)) : "";
    }

    private String atom(int deep) {
        if (deep < 7 && chance(12)) {
            return "not " + blank() + atom(deep + 1);
        }
        if (deep < 7 && chance(12)) {
            return "(" + blank() + any(deep + 1) + blank() + ")";
        }
        if (chance(20)) {
            return new String[] {"grave", "child", "cleared", "guilty"}[pick(4)];
        }
        String fact = new String[] {"pairs", "against", "points", "class", "age"}[pick(5)];
        int number = chance(90) ? pick(5) : pick(12000);
        return fact + blank() + "<>".charAt(pick(2)) + blank() + number;
    }

    private String all(int deep) {
        StringBuilder text = new StringBuilder(atom(deep));
        while (chance(20)) {
            text.append(" and ").append(blank()).append(atom(deep));
        }
        return text.toString();
    }

    private String any(int deep) {
        StringBuilder text = new StringBuilder(all(deep));
        while (chance(20)) {
            text.append(blank()).append(" or ").append(all(deep));
        }
        return text.toString();
    }

    private String ruleText() {
        switch (pick(9)) {
            case 0:
            case 1:
                return "same if " + (chance(60) ? "pairs>" + pick(3) : any(0));
            case 2:
            case 3:
                return "doubt if " + (chance(40) ? "pairs>" + pick(2) : any(0));
            case 4:
                return "need " + (chance(90) ? 1 + pick(2) : pick(9));
            case 5:
                return "fingers " + (chance(90) ? 1 + pick(3) : pick(13));
            case 6:
                return "keep " + pick(9) + (chance(50) ? " if " + any(0) : "");
            case 7:
                return "keep" + blank() + pick(40);
            default:
                return "strike if " + (chance(60) ? "age>" + (3 + pick(9)) + " and cleared" : any(0));
        }
    }

    private String rulesText() {
        StringBuilder text = new StringBuilder(blank());
        int count = chance(3) ? 0 : chance(5) ? 13 : 1 + pick(6);
        for (int i = 0; i < count; i++) {
            text.append(i == 0 ? "" : ";").append(blank()).append(count == 13 ? "need 1" : ruleText());
        }
        if (text.length() > 400) {
            text.setLength(400);
        }
        return chance(12) ? spoilt(text.toString()) : text.toString();
    }

    private void makeRules() {
        write(rulesText());
        int day = chance(60) ? y.count(0) : chance(90) ? y.count(0) + pick(6) : day();
        both(call("rules", day), () -> x.rules(day), () -> y.rules(day));
        if (chance(50)) {
            both("fault()", x::fault, y::fault);
        }
    }

    // ---- points

    private int[] somePoint() {
        if (chance(8)) {
            return new int[] {within(0, 63), within(0, 63), within(0, 2), within(0, 15)};
        }
        int[] p = shapes[pick(3)][pick(8)].clone();
        for (int quarters = pick(3) == 0 ? pick(4) : 0; quarters > 0; quarters--) {
            p = new int[] {63 - p[1], p[0], p[2], (p[3] + 4) % 16};
        }
        p[0] = Math.floorMod(p[0] + pick(3) - 1, 64);
        p[1] = Math.floorMod(p[1] + pick(3) - 1, 64);
        p[3] = Math.floorMod(p[3] + pick(3) - 1, 16);
        return p;
    }

    private void addPoint() {
        int[] p = somePoint();
        int print = index(y.count(1));
        both(call("point", print, p[0], p[1], p[2], p[3]), () -> x.point(print, p[0], p[1], p[2], p[3]),
                () -> y.point(print, p[0], p[1], p[2], p[3]));
    }

    private void addSpot() {
        int[] p = somePoint();
        int mark = index(y.count(4));
        both(call("spot", mark, p[0], p[1], p[2], p[3]), () -> x.spot(mark, p[0], p[1], p[2], p[3]),
                () -> y.spot(mark, p[0], p[1], p[2], p[3]));
    }

    private void makeMark() {
        int x0 = within(0, 20);
        int y0 = within(0, 20);
        int x1 = within(15, 63);
        int y1 = within(15, 63);
        boolean grave = chance(40);
        both(call("mark", x0, y0, x1, y1, grave), () -> x.mark(x0, y0, x1, y1, grave),
                () -> y.mark(x0, y0, x1, y1, grave));
    }

    private void makeCard() {
        int name = chance(90) ? pick(4) : within(0, 9999);
        both(call("card", name), () -> x.card(name), () -> y.card(name));
    }

    private void setFinger() {
        int card = index(y.count(2));
        int finger = chance(70) ? pick(3) : index(10);
        int print = chance(15) ? -1 : index(y.count(1));
        both(call("finger", card, finger, print), () -> bit(x.finger(card, finger, print)),
                () -> bit(y.finger(card, finger, print)));
    }

    // ---- all other calls

    private void aboutPrint() {
        int print = index(y.count(1));
        switch (pick(6)) {
            case 0:
                int cell = index(64);
                both(call("field", print, cell), () -> x.field(print, cell), () -> y.field(print, cell));
                break;
            case 1:
            case 2:
                int corner = index(49);
                both(call("turn", print, corner), () -> x.turn(print, corner), () -> y.turn(print, corner));
                break;
            case 3:
                both(call("pattern", print), () -> x.pattern(print), () -> y.pattern(print));
                break;
            case 4:
                int n = index(3);
                boolean delta = chance(50);
                both(call("singular", print, n, delta), () -> x.singular(print, n, delta),
                        () -> y.singular(print, n, delta));
                break;
            default:
                both(call("ridges", print), () -> x.ridges(print), () -> y.ridges(print));
                break;
        }
    }

    private void aboutMark() {
        int mark = index(y.count(4));
        int print = index(y.count(1));
        int day = day();
        switch (pick(6)) {
            case 0:
            case 1:
            case 2:
                int what = index(5);
                both(call("lay", mark, print, what), () -> x.lay(mark, print, what), () -> y.lay(mark, print, what));
                break;
            case 3:
                both(call("verdict", mark, print, day), () -> x.verdict(mark, print, day),
                        () -> y.verdict(mark, print, day));
                break;
            case 4:
                both(call("why", mark, print, day), () -> x.why(mark, print, day), () -> y.why(mark, print, day));
                break;
            default:
                both(call("left", mark), () -> x.left(mark), () -> y.left(mark));
                break;
        }
    }

    private void aboutCard() {
        int card = index(y.count(2));
        int finger = index(10);
        int n = index(3);
        boolean flag = chance(50);
        switch (pick(8)) {
            case 0:
                both(call("kind", card, finger), () -> x.kind(card, finger), () -> y.kind(card, finger));
                break;
            case 1:
                both(call("number", card, flag), () -> x.number(card, flag), () -> y.number(card, flag));
                break;
            case 2:
                both(call("drawers", card), () -> x.drawers(card), () -> y.drawers(card));
                break;
            case 3:
                both(call("like", card, n), () -> x.like(card, n), () -> y.like(card, n));
                break;
            case 4:
                int second = chance(20) ? -1 : within(0, 7);
                int its = profile != 6 && chance(60) ? pick(3) : finger;
                both(call("doubt", card, its, second), () -> bit(x.doubt(card, its, second)),
                        () -> bit(y.doubt(card, its, second)));
                break;
            case 5:
                both(call("rare", card, flag), () -> x.rare(card, flag), () -> y.rare(card, flag));
                break;
            default:
                int what = index(6);
                both(call("look", card, what), () -> x.look(card, what), () -> y.look(card, what));
                break;
        }
    }

    private void aboutSayings() {
        boolean isOften = profile == 6 || chance(50);
        int examiner = isOften ? pick(3) : index(6);
        int mark = isOften ? pick(2) : index(y.count(4));
        int card = isOften ? pick(2) : index(y.count(2));
        int finger = isOften ? pick(2) : index(10);
        int day = day();
        switch (pick(4)) {
            case 0:
            case 1:
                int what = chance(60) ? 1 : within(0, 2);
                both(call("say", examiner, mark, card, finger, what), () -> x.say(examiner, mark, card, finger, what),
                        () -> y.say(examiner, mark, card, finger, what));
                break;
            case 2:
                both(call("said", examiner, mark, card, finger, day), () -> x.said(examiner, mark, card, finger, day),
                        () -> y.said(examiner, mark, card, finger, day));
                break;
            default:
                both(call("proved", mark, card, finger, day), () -> bit(x.proved(mark, card, finger, day)),
                        () -> bit(y.proved(mark, card, finger, day)));
                break;
        }
    }

    private void aboutPersons() {
        int a = index(y.count(2));
        int b = index(y.count(2));
        int day = day();
        boolean names = chance(50);
        int what = within(0, 2);
        switch (pick(6)) {
            case 0:
                both(call("alike", a, b, day), () -> x.alike(a, b, day), () -> y.alike(a, b, day));
                break;
            case 1:
            case 2:
                both(call("person", a, day), () -> x.person(a, day), () -> y.person(a, day));
                break;
            case 3:
                both(call("persons", day, names), () -> x.persons(day, names), () -> y.persons(day, names));
                break;
            case 4:
                both(call("tell", a, what), () -> bit(x.tell(a, what)), () -> bit(y.tell(a, what)));
                break;
            default:
                both(call("kept", a, day), () -> x.kept(a, day), () -> y.kept(a, day));
                break;
        }
    }

    private void aboutHits() {
        int n = index(y.count(8));
        int what = index(6);
        int row = index(Math.min(6, y.count(8)));
        int mask = chance(60) ? pick(3) : random.nextInt();
        switch (pick(5)) {
            case 0:
            case 1:
                both(call("hit", n, what), () -> x.hit(n, what), () -> y.hit(n, what));
                break;
            case 2:
                if (chance(40)) {
                    both(call("tear", row, mask), () -> x.tear(row, mask), () -> y.tear(row, mask));
                }
                break;
            default:
                both("check()", x::check, y::check);
                break;
        }
    }

    private void pass() {
        int n = profile == 3 ? within(0, 40) : chance(5) ? within(0, 40) : pick(3);
        both(call("days", n), () -> x.days(n), () -> y.days(n));
    }

    private void aboutAll() {
        switch (pick(12)) {
            case 0:
                both("image()", () -> {
                    x.image();
                    return 0;
                }, () -> {
                    y.image();
                    return 0;
                });
                break;
            case 1:
                both("back()", () -> bit(x.back()), () -> bit(y.back()));
                break;
            case 2:
                int slack = within(0, 8);
                both(call("slack", slack), () -> {
                    x.slack(slack);
                    return 0;
                }, () -> {
                    y.slack(slack);
                    return 0;
                });
                break;
            case 3:
                int desk = chance(60) ? pick(6) : within(0, 60);
                both(call("desk", desk), () -> {
                    x.desk(desk);
                    return 0;
                }, () -> {
                    y.desk(desk);
                    return 0;
                });
                break;
            case 4:
                int n = chance(50) ? within(0, 400) : day();
                both(call("end", n), () -> bit(x.end(n)), () -> bit(y.end(n)));
                break;
            default:
                countAll();
                break;
        }
    }

    private void countAll() {
        int what = chance(5) ? within(0, 11) : pick(12);
        both(call("count", what), () -> x.count(what), () -> y.count(what));
    }

    private void any() {
        switch (pick(22)) {
            case 0:
                if (chance(30)) {
                    makePrint();
                }
                break;
            case 1:
            case 2:
                addPoint();
                break;
            case 3:
                if (chance(40)) {
                    makeMark();
                }
                break;
            case 4:
                addSpot();
                break;
            case 5:
                if (chance(40)) {
                    makeCard();
                }
                break;
            case 6:
            case 7:
                setFinger();
                break;
            case 8:
                aboutPrint();
                break;
            case 9:
            case 10:
            case 11:
                aboutMark();
                break;
            case 12:
            case 13:
                aboutCard();
                break;
            case 14:
            case 15:
                aboutSayings();
                break;
            case 16:
            case 17:
                aboutPersons();
                break;
            case 18:
                aboutHits();
                break;
            case 19:
                pass();
                break;
            case 20:
                aboutAll();
                break;
            default:
                if (chance(25)) {
                    makeRules();
                }
                break;
        }
    }

    /** What the profile begins with, so that each limit of the document is met by some runs. */
    private void begin() {
        int prints = profile == 1 ? 62 : 2 + pick(4);
        for (int i = 0; i < prints; i++) {
            makePrint();
        }
        if (profile == 2) {
            for (int i = 0; i < 30; i++) {
                write("");
                both("rules(0)", () -> x.rules(0), () -> y.rules(0));
                makeMark();
            }
        }
        for (int i = 0; i < (profile == 1 ? 5 : 12); i++) {
            addPoint();
            if (i % 4 == 0) {
                makeMark();
            }
            addSpot();
        }
        for (int i = 0; i < (profile == 5 ? 17 : 2 + pick(4)); i++) {
            makeCard();
        }
        makeRules();
        if (profile == 4) {
            both("finger(0, 0, 0)", () -> bit(x.finger(0, 0, 0)), () -> bit(y.finger(0, 0, 0)));
            for (int i = 0; i < 205; i++) {
                int examiner = pick(6);
                int what = pick(3);
                both(call("say", examiner, 0, 0, 0, what), () -> x.say(examiner, 0, 0, 0, what),
                        () -> y.say(examiner, 0, 0, 0, what));
                if (i % 40 == 0) {
                    pass();
                }
            }
        }
        if (profile == 5) {
            fillHits();
        }
        if (profile == 6) {
            fillDoubts();
        }
        for (int i = 0; i < 15; i++) {
            setFinger();
        }
    }

    private void fillHits() {
        write("doubt if pairs<99 ; keep 99");
        both("rules(0)", () -> x.rules(0), () -> y.rules(0));
        for (int i = 0; i < 90; i++) {
            int card = i % 16;
            int finger = i / 16;
            both(call("finger", card, finger, 0), () -> bit(x.finger(card, finger, 0)),
                    () -> bit(y.finger(card, finger, 0)));
        }
        both("desk(60)", () -> {
            x.desk(60);
            return 0;
        }, () -> {
            y.desk(60);
            return 0;
        });
        both("days(4)", () -> x.days(4), () -> y.days(4));
    }

    /** Two cards with all fingers, most of them doubtful, and two marks that are much spoken of. */
    private void fillDoubts() {
        for (int i = 0; i < 20; i++) {
            int card = i % 2;
            int finger = i / 2;
            int print = pick(3);
            both(call("finger", card, finger, print), () -> bit(x.finger(card, finger, print)),
                    () -> bit(y.finger(card, finger, print)));
        }
        for (int i = 0; i < 14; i++) {
            int card = pick(2);
            int finger = pick(10);
            int second = pick(9) - 1;
            both(call("doubt", card, finger, second), () -> bit(x.doubt(card, finger, second)),
                    () -> bit(y.doubt(card, finger, second)));
            both(call("drawers", card), () -> x.drawers(card), () -> y.drawers(card));
            both(call("like", card, 0), () -> x.like(card, 0), () -> y.like(card, 0));
        }
        for (int i = 0; i < 60; i++) {
            aboutSayings();
        }
    }

    private boolean isRight() {
        begin();
        for (int i = 0; i < 5000 && past.size() < CALLS && !isWrong; i++) {
            any();
        }
        return !isWrong;
    }

    public static void main(String[] args) {
        long from = args.length > 0 ? Long.parseLong(args[0]) : 0;
        int runs = args.length > 1 ? Integer.parseInt(args[1]) : RUNS;
        int wrong = 0;
        long calls = 0;
        for (long seed = from; seed < from + runs && wrong < 3; seed++) {
            RandomRuns run = new RandomRuns(seed);
            if (!run.isRight()) {
                wrong++;
                System.out.println("that was run " + seed);
                if (wrong == 1) {
                    run.past.forEach(System.out::println);
                }
            }
            calls += run.past.size();
        }
        System.out.println(runs + " random runs, " + calls + " calls, " + wrong + " runs wrong");
        if (wrong != 0) {
            System.exit(1);
        }
    }
}
