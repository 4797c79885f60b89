import java.util.ArrayList;
import java.util.List;

/** Promises 1 to 11 on their edges: a new object, the tape, and prints. */
public final class PrintEdges {
    private static final int MIN = Integer.MIN_VALUE;
    private static final int MAX = Integer.MAX_VALUE;
    private static final int BLANKS = 0x20202020;
    private static final String ROW = "01234567";
    private static final String RIGHT_TEXT = Due.LEFT;

    // ---- promise 1

    private static void newObject() {
        RidgeBureau x = new RidgeBureau();
        for (int what : new int[] {0, 1, 2, 3, 4, 5, 6, 7, 8, 9}) {
            Due.is("count " + what, 0, x.count(what));
        }
        for (int n : new int[] {0, -1, MIN, MAX}) {
            Due.outside("pattern " + n, () -> x.pattern(n));
            Due.outside("look at card " + n, () -> x.look(n, 0));
            Due.outside("left of mark " + n, () -> x.left(n));
            Due.noSuch("hit " + n, () -> x.hit(n, 0));
            Due.noSuch("row " + n, () -> x.tear(n, 0));
        }
        Due.is("check", -1, x.check());
        Due.is("persons", 0, x.persons(0, false));
        Due.is("today", 0, x.days(0));
        Due.illegal("rules from the day ahead of today", () -> x.rules(-1));
        Due.is("rules from today", 0, x.rules(0));
        Due.is("the first print", 0, Due.print(x, Due.ARCH));
        Due.is("the first mark", 0, x.mark(0, 0, 63, 63, false));
        Due.is("the first card", 0, x.card(0));
    }

    private static void lastCall() {
        RidgeBureau x = new RidgeBureau();
        Due.print(x, Due.ARCH);
        x.card(0);
        // 6 calls for the print and 1 for the card are made: 504 more, and then the last
        for (int i = 0; i < 504; i++) {
            x.finger(0, 0, i % 2 == 0 ? 0 : -1);
        }
        Due.is("the 512th call", true, x.finger(0, 0, 0));
        RidgeBureau y = new RidgeBureau();
        Due.print(y, Due.ARCH);
        y.mark(0, 0, 63, 63, true);
        y.point(0, 20, 20, 0, 0);
        y.spot(0, 21, 20, 0, 0);
        y.point(0, 30, 20, 0, 0);
        y.spot(0, 34, 20, 0, 0);
        // 11 calls are made: the 511th, and no other, leaves the slack by which both points pair
        for (int i = 12; i <= 511; i++) {
            y.slack(i % 4);
        }
        Due.is("slack 3 by the 511th call, pairs by the 512th", 2, y.lay(0, 0, 0));
    }

    private static void twoObjects() {
        RidgeBureau x = new RidgeBureau();
        RidgeBureau y = new RidgeBureau();
        Past.rich(x);
        for (int what = 0; what < 10; what++) {
            Due.is("count " + what + " of the other", 0, y.count(what));
        }
        Due.is("fault of the other", -1, y.fault());
        Due.is("tape of the other", 20, y.feed(0, 0, 0, 0, 0));
        Due.is("image of the other", false, y.back());
    }

    private static void promise1() {
        Edge.of(1, "No PRINTS, CARDS, MARKS, RULES; TODAY 0.", PrintEdges::newObject);
        Edge.ofTerms("An object is used for at most 512 calls", PrintEdges::lastCall);
        Edge.ofTerms("SLACK (0 to 8; 1 at first)", () -> Due.is("slack", 1, new RidgeBureau().count(10)));
        Edge.ofTerms("COMPARISONS (0 to 60; 10 at first)", () -> Due.is("desk", 10, new RidgeBureau().count(11)));
        Edge.of(5, "ahead of any", () -> Due.is("fault", -1, new RidgeBureau().fault()));
        Edge.of(1, "`RidgeBureau()`", PrintEdges::twoObjects);
    }

    // ---- promises 2 and 3: the tape

    private static RidgeBureau fullTape() {
        RidgeBureau x = new RidgeBureau();
        for (int i = 1; i <= 20; i++) {
            Due.is("feed " + i, 20 * i, x.feed(BLANKS, BLANKS, BLANKS, BLANKS, BLANKS));
        }
        return x;
    }

    private static void beyondTheTape() {
        for (int has : new int[] {0, 1, 379, 380, 381, 399, 400}) {
            RidgeBureau x = fullTape();
            x.end(has);
            boolean comes = has + 20 <= 400;
            Due.is("feed behind " + has, comes ? has + 20 : -1, x.feed(0, 0, 0, 0, 0));
            Due.is("bytes behind " + has, comes, x.end(has + 1));
            Due.is("bytes ahead of " + has, true, x.end(has));
        }
        // 72 bytes of a field and 320 blanks: 8 less than 400
        Twins.Script lessThanFull = x -> {
            Past.rich(x);
            for (int i = 0; i < 16; i++) {
                x.feed(BLANKS, BLANKS, BLANKS, BLANKS, BLANKS);
            }
        };
        Twins.same("feed", lessThanFull, x -> Due.is("feed", -1, x.feed(0, 0, 0, 0, 0)));
        Twins.same("feed of 400", x -> {
            lessThanFull.on(x);
            x.end(380);
            Due.is("feed", 400, x.feed(BLANKS, BLANKS, BLANKS, BLANKS, BLANKS));
        }, x -> Due.is("feed", -1, x.feed(-1, -1, -1, -1, -1)));
    }

    /** A byte that is no sign is put at each of the places of a call: it is the first wrong one. */
    private static void orderOfBytes() {
        for (int sign : new int[] {0, 33, 127, 128, 255}) {
            RidgeBureau x = new RidgeBureau();
            for (int place = 0; place < 20; place++) {
                int[] n = {BLANKS, BLANKS, BLANKS, BLANKS, BLANKS};
                int shift = 24 - place % 4 * 8;
                n[place / 4] = n[place / 4] & ~(255 << shift) | sign << shift;
                Due.is("feed", 20, x.feed(BLANKS, BLANKS, BLANKS, BLANKS, BLANKS));
                Due.is("feed", 40, x.feed(n[0], n[1], n[2], n[3], n[4]));
                Due.illegal("print", x::print);
                Due.is("fault by byte " + sign + " at place 20 + " + place, 20 + place, x.fault());
            }
        }
    }

    private static void firstBytesAlone() {
        RidgeBureau x = new RidgeBureau();
        Due.write(x, "need 1!!!!!!!!!!!!!!");
        Due.is("end(6)", true, x.end(6));
        Due.is("the first 6 bytes are a text", 1, x.rules(0));
        Due.write(x, "need 1!!!!!!!!!!!!!!");
        Due.is("end(7)", true, x.end(7));
        Due.illegal("one byte more", () -> x.rules(0));
        Due.is("fault", 6, x.fault());
        Due.write(x, "need 1!!!!!!!!!!!!!!");
        Due.is("end(5)", true, x.end(5));
        Due.illegal("one byte less", () -> x.rules(0));
        Due.is("fault", 5, x.fault());
        Due.write(x, "need 1");
        Due.is("end(0)", true, x.end(0));
        Due.is("none of them is left", 0, x.rules(0));
        Due.is("what comes then comes first", 20, x.feed(0x6E656564, 0x20312020, BLANKS, BLANKS, BLANKS));
        Due.is("its text", 1, x.rules(0));
    }

    private static void fewerBytes() {
        for (int has : new int[] {0, 1, 20, 399, 400}) {
            RidgeBureau x = fullTape();
            x.end(has);
            for (int n : new int[] {has + 1, has + 20, MAX, -1, MIN}) {
                Due.is("end(" + n + ") of " + has, false, x.end(n));
            }
            Due.is("end(" + has + ") of " + has, true, x.end(has));
            if (has > 0) {
                Due.is("end(" + (has - 1) + ") of " + has, true, x.end(has - 1));
                Due.is("end(" + has + ") behind it", false, x.end(has));
            }
        }
        // the rich past leaves 72 bytes
        for (int n : new int[] {73, 400, 401, MAX, -1, MIN}) {
            Twins.same("end(" + n + ")", Past::rich, x -> Due.is("end", false, x.end(n)));
        }
    }

    private static void promises2and3() {
        Edge.of(2, "NONE, and none come, if it would have more than 400", PrintEdges::beyondTheTape);
        Edge.of(2, "Twenty bytes come behind the TAPE, of each number the highest first: how many it has",
                PrintEdges::orderOfBytes);
        Edge.of(3, "The TAPE has its first n bytes alone: true", PrintEdges::firstBytesAlone);
        Edge.of(3, "false, and nothing happens, if it has fewer, or n is below 0", PrintEdges::fewerBytes);
    }

    // ---- promises 4 and 5: the text of a field

    /** Puts a text on the tape and reads it as a field: the first wrong byte is due, NONE if it is right. */
    private static void read(RidgeBureau x, String text, int fault) {
        int prints = x.count(1);
        Due.write(x, text);
        if (fault == -1) {
            Due.is("print of '" + text + "'", prints, x.print());
        } else {
            Due.illegal("print of '" + text + "'", x::print);
            Due.is("prints behind '" + text + "'", prints, x.count(1));
        }
        Due.is("fault of '" + text + "'", fault, x.fault());
        Due.is("the tape behind '" + text + "'", false, x.end(1));
    }

    private static String rows(int count) {
        return (ROW + "/").repeat(count);
    }

    private static String eightRows() {
        return rows(7) + ROW;
    }

    /** Each byte stands once as the first sign, as the last of the first row, and behind the 8th row. */
    private static void eachByte() {
        for (int sign = 0; sign < 256; sign++) {
            String text = String.valueOf((char) sign);
            boolean isDirection = sign >= '0' && sign <= '7' || sign == '.';
            RidgeBureau x = new RidgeBureau();
            // a blank there leaves 7 signs, and the / behind them comes too early
            int fault = isDirection ? -1 : sign == ' ' ? 8 : 0;
            read(x, text + eightRows().substring(1), fault);
            read(x, "0000000" + text + eightRows().substring(8), isDirection ? -1 : sign == ' ' ? 8 : 7);
            read(x, eightRows() + text, sign == ' ' ? -1 : 71);
        }
    }

    /** In each row, the others being right: 7 to 10 signs. */
    private static void signsOfARow() {
        for (int row = 0; row < 8; row++) {
            String ahead = rows(row);
            String behind = row == 7 ? "" : "/" + rows(6 - row) + ROW;
            int at = ahead.length();
            RidgeBureau x = new RidgeBureau();
            // what comes too early is the /, or the end of the text
            read(x, ahead + "0123456" + behind, at + 7);
            read(x, ahead + "01234567" + behind, -1);
            read(x, ahead + "012345670" + behind, at + 8);
            read(x, ahead + "01234567." + behind, at + 8);
            read(x, ahead + "01234567  7" + behind, at + 10);
            read(x, ahead + "012345670x" + behind, at + 8);
            read(x, ahead + "0123456x0" + behind, at + 7);
        }
    }

    private static void earlySlashes() {
        for (int row = 0; row < 8; row++) {
            RidgeBureau x = new RidgeBureau();
            for (int signs = 0; signs < 8; signs++) {
                int at = 9 * row + signs;
                read(x, rows(row) + ROW.substring(0, signs) + "/" + rows(1), at);
                read(x, rows(row) + ROW.substring(0, signs) + " /", at + 1);
            }
            if (row < 7) {
                read(x, rows(row) + ROW + "/" + rows(6 - row) + ROW, -1);
            }
        }
    }

    private static void behindTheRows() {
        RidgeBureau x = new RidgeBureau();
        read(x, eightRows(), -1);
        read(x, eightRows() + "/", 71);
        read(x, eightRows() + "  /", 73);
        read(x, eightRows() + "/" + ROW, 71);
        read(x, eightRows() + "//", 71);
        read(x, rows(6) + ROW + "/", 63);
        read(x, rows(6) + ROW, 62);
    }

    private static void cutTexts() {
        for (int size = 0; size <= 71; size++) {
            RidgeBureau x = new RidgeBureau();
            String text = eightRows().substring(0, size);
            read(x, text, size == 71 ? -1 : size);
            read(x, text + "  ", size == 71 ? -1 : size + 2);
        }
        // the bytes that lie behind the end on the tape are no part of it
        RidgeBureau x = new RidgeBureau();
        Due.write(x, eightRows());
        x.end(70);
        Due.illegal("a cut text", x::print);
        Due.is("fault", 70, x.fault());
    }

    private static void blanksAnywhere() {
        for (int at = 0; at <= 71; at++) {
            RidgeBureau x = new RidgeBureau();
            read(x, eightRows().substring(0, at) + " " + eightRows().substring(at), -1);
            read(x, eightRows().substring(0, at) + " ".repeat(329) + eightRows().substring(at), -1);
            for (int cell = 0; cell < 64; cell += 9) {
                Due.is("field " + cell, cell % 8, x.field(1, cell));
            }
        }
        RidgeBureau x = new RidgeBureau();
        read(x, " ".repeat(400), 400);
        read(x, " ", 1);
        read(x, "", 0);
        read(x, " ".repeat(330) + eightRows().substring(0, 70), 400);
    }

    private static void firstOfTwo() {
        RidgeBureau x = new RidgeBureau();
        read(x, "0x/", 1);
        read(x, "0/x", 1);
        read(x, "012345670/", 8);
        read(x, "x", 0);
        read(x, " x", 1);
        read(x, eightRows() + "0/", 71);
        read(x, rows(3) + "9" + ROW + "8", 27);
    }

    private static void sixtyPrints(RidgeBureau x) {
        for (int i = 0; i < 60; i++) {
            // 80 bytes, so that no end is needed: 5 calls each
            String text = (i % 2 == 0 ? Due.LEFT : Due.WHORL) + " ".repeat(9);
            for (int at = 0; at < 80; at += 20) {
                int[] n = new int[5];
                for (int j = 0; j < 20; j++) {
                    n[j / 4] |= text.charAt(at + j) << 24 - j % 4 * 8;
                }
                x.feed(n[0], n[1], n[2], n[3], n[4]);
            }
            Due.is("print", i, x.print());
        }
    }

    private static void sixty() {
        RidgeBureau x = new RidgeBureau();
        sixtyPrints(x);
        Due.is("prints", 60, x.count(1));
        Due.is("pattern of print 59", 4, x.pattern(59));
        Due.outside("print 60", () -> x.pattern(60));
        Twins.sameButTape("a 61st print", -1, y -> {
            sixtyPrints(y);
            Due.write(y, RIGHT_TEXT);
        }, y -> Due.unsupported("print", y::print));
        Twins.sameButTape("a wrong 61st print", 3, y -> {
            sixtyPrints(y);
            Due.write(y, "000");
        }, y -> Due.illegal("print", y::print));
    }

    private static void refusedTexts() {
        String[] texts = {"", " ", "0", eightRows() + "/", "x" + eightRows(), eightRows().substring(1)};
        int[] faults = {0, 1, 1, 71, 0, 7};
        for (int i = 0; i < texts.length; i++) {
            String text = texts[i];
            Twins.sameButTape("print of '" + text + "'", faults[i], x -> {
                Past.rich(x);
                x.end(0);
                Due.write(x, text);
            }, x -> Due.illegal("print", x::print));
        }
        RidgeBureau x = new RidgeBureau();
        read(x, "x", 0);
        read(x, eightRows(), -1);
        Due.is("the first that is right is print 0", 0, x.count(1) - 1);
    }

    private static void usedUp() {
        RidgeBureau x = new RidgeBureau();
        Due.print(x, RIGHT_TEXT);
        Due.is("end(1) behind a print", false, x.end(1));
        Due.is("feed behind a print", 20, x.feed(0, 0, 0, 0, 0));
        Due.illegal("print", x::print);
        Due.is("feed behind a wrong one", 20, x.feed(BLANKS, BLANKS, BLANKS, BLANKS, BLANKS));
        Due.illegal("print of blanks", x::print);
        Due.illegal("print of nothing", x::print);
        Due.is("fault of nothing", 0, x.fault());
    }

    private static void latestText() {
        RidgeBureau x = new RidgeBureau();
        Due.is("ahead of any", -1, x.fault());
        x.feed(0, 0, 0, 0, 0);
        x.end(7);
        Due.is("a text that is not read yet", -1, x.fault());
        Due.illegal("rules from a wrong day", () -> x.rules(2001));
        Due.is("a text that was not read", -1, x.fault());
        read(x, "01x", 2);
        x.feed(0, 0, 0, 0, 0);
        x.end(0);
        x.image();
        x.back();
        Due.outside("a refused call that reads no text", () -> x.pattern(0));
        Due.is("other calls change nothing of it", 2, x.fault());
        Due.rules(x, 0, "");
        Due.is("a right text without any byte", -1, x.fault());
        Due.write(x, "need 0");
        Due.illegal("rules", () -> x.rules(0));
        Due.is("of rules", 5, x.fault());
        Due.write(x, "need 9 9");
        Due.illegal("rules from a wrong day", () -> x.rules(-1));
        Due.is("the latest that was read", 5, x.fault());
        read(x, eightRows(), -1);
        Due.is("none", -1, x.fault());
    }

    private static void promises4and5() {
        Edge.ofTerms("8 ROWS of 8 signs 0 to 7 or a dot (46, BLANK)", PrintEdges::eachByte);
        Edge.ofTerms("The first wrong byte: a sign that is none", PrintEdges::firstOfTwo);
        Edge.ofTerms("a 9th of a ROW", PrintEdges::signsOfARow);
        Edge.ofTerms("a / ahead of 8 of a ROW", PrintEdges::earlySlashes);
        Edge.ofTerms("or behind the 8th ROW", PrintEdges::behindTheRows);
        Edge.ofTerms("or the text's length, if more must come.", PrintEdges::cutTexts);
        Edge.ofTerms("blanks (32) may stand anywhere", PrintEdges::blanksAnywhere);
        Edge.ofTerms("PRINTS (at most 60, numbered from 0 on)", PrintEdges::sixty);
        Edge.of(4, "UnsupportedOperationException: there are 60.", PrintEdges::sixty);
        Edge.of(4, "IllegalArgumentException: the text is wrong", PrintEdges::refusedTexts);
        Edge.of(4, "Uses the TAPE up: a PRINT by its FIELD: its number.", PrintEdges::usedUp);
        Edge.of(5, "The first wrong byte of the latest text that was read; NONE without one, and ahead of any.",
                PrintEdges::latestText);
    }

    // ---- promise 6

    private static void cells() {
        RidgeBureau x = new RidgeBureau();
        Field field = new Field();
        for (int cell = 0; cell < 64; cell++) {
            field.cell(cell % 8, cell / 8, (cell + cell / 8) % 9 - 1);
        }
        field.on(x);
        for (int cell = 0; cell < 64; cell++) {
            Due.is("field " + cell, (cell + cell / 8) % 9 - 1, x.field(0, cell));
        }
    }

    private static void noSuchCell() {
        for (int cell : new int[] {-1, 64, MIN, MAX}) {
            Twins.same("field of cell " + cell, Past::rich, x -> Due.outside("field", () -> x.field(0, cell)));
        }
        // the rich past has prints 0 to 2
        for (int print : new int[] {-1, 3, 60, MIN, MAX}) {
            Twins.same("field of print " + print, Past::rich, x -> {
                Due.outside("field", () -> x.field(print, 0));
                Due.outside("turn", () -> x.turn(print, 0));
                Due.outside("pattern", () -> x.pattern(print));
                Due.outside("singular", () -> x.singular(print, 0, true));
                Due.outside("ridges", () -> x.ridges(print));
                Due.outside("point", () -> x.point(print, 0, 0, 0, 0));
            });
        }
        RidgeBureau x = new RidgeBureau();
        Past.rich(x);
        Due.is("cell 0 of the last print", 0, x.field(2, 0));
        Due.is("cell 63 of the last print", 6, x.field(2, 63));
    }

    // ---- promise 7

    /** All fours of directions and blanks around a corner, 16 of them on a print. */
    private static void allCorners() {
        List<int[]> fours = new ArrayList<>();
        for (int i = 0; i < 9 * 9 * 9 * 9; i++) {
            fours.add(new int[] {i % 9 - 1, i / 9 % 9 - 1, i / 81 % 9 - 1, i / 729 - 1});
        }
        RidgeBureau x = new RidgeBureau();
        for (int i = 0; i < fours.size(); i += 16) {
            if (x.count(1) == 22) {
                x = new RidgeBureau();
            }
            int print = cornersFrom(fours, i).on(x);
            for (int j = 0; j < 16 && i + j < fours.size(); j++) {
                int[] four = fours.get(i + j);
                int due = turnOf(four);
                Due.is("turns of one kind", true, due == -8 || due == 0 || due == 8 || due == -1);
                Due.is("turn around " + four[0] + " " + four[1] + " " + four[2] + " " + four[3], due,
                        x.turn(print, Field.corner(j % 4 * 2 + 1, j / 4 * 2 + 1)));
            }
        }
    }

    private static Field cornersFrom(List<int[]> fours, int first) {
        Field field = new Field();
        for (int j = 0; j < 16 && first + j < fours.size(); j++) {
            field.around(j % 4 * 2 + 1, j / 4 * 2 + 1, fours.get(first + j));
        }
        return field;
    }

    private static int turnOf(int[] four) {
        int[] steps = {0, 1, 2, 3, 4, -3, -2, -1};
        int sum = 0;
        for (int i = 0; i < 4; i++) {
            int from = four[i];
            int to = four[(i + 1) % 4];
            if (from == -1 || to == -1 || (to - from + 8) % 8 == 4) {
                return -1;
            }
            sum += steps[(to - from + 8) % 8];
        }
        return sum;
    }

    /** A core and a delta, each direction so much more, over 7 and on from 0. */
    private static void roundTheDirections() {
        RidgeBureau x = new RidgeBureau();
        for (int more = 0; more < 8; more++) {
            int a = more;
            int b = (more + 2) % 8;
            int c = (more + 4) % 8;
            int d = (more + 6) % 8;
            int print = new Field().around(2, 2, a, b, c, d).around(5, 2, a, d, c, b).around(2, 5, a, a, b, b).on(x);
            Due.is("a core from " + a, 8, x.turn(print, Field.corner(2, 2)));
            Due.is("a delta from " + a, -8, x.turn(print, Field.corner(5, 2)));
            Due.is("a plain one from " + a, 0, x.turn(print, Field.corner(2, 5)));
        }
    }

    /** Of a core and a delta by steps of 3, 3, 3, - 1: one cell is blank, or makes a step of 4. */
    private static void blankOrUnsure() {
        int[][] sure = {{0, 3, 6, 1}, {0, 5, 2, 7}, {0, 1, 0, 7}};
        int[] due = {8, -8, 0};
        for (int i = 0; i < sure.length; i++) {
            for (int at = 0; at < 4; at++) {
                RidgeBureau x = new RidgeBureau();
                int[] blank = sure[i].clone();
                blank[at] = -1;
                int[] unsure = sure[i].clone();
                unsure[at] = (unsure[(at + 1) % 4] + 4) % 8;
                new Field().around(4, 4, sure[i]).on(x);
                new Field().around(4, 4, blank).on(x);
                new Field().around(4, 4, unsure).on(x);
                Due.is("sure", due[i], x.turn(0, Field.corner(4, 4)));
                Due.is("blank, cell " + at, -1, x.turn(1, Field.corner(4, 4)));
                Due.is("unsure, cell " + at, -1, x.turn(2, Field.corner(4, 4)));
                Due.is("pattern of a field with none", 0, x.pattern(1) + x.pattern(2));
            }
        }
    }

    /** A core, a delta, and plain ones, alone among blank cells, at each corner. */
    private static void eachCorner() {
        int[][] fours = {{0, 2, 4, 6}, {0, 6, 4, 2}, {7, 0, 7, 0}};
        int[] due = {8, -8, 0};
        for (int i = 0; i < 3; i++) {
            for (int first = 0; first < 49; first += 25) {
                RidgeBureau x = new RidgeBureau();
                for (int corner = first; corner < Math.min(49, first + 25); corner++) {
                    int cx = corner % 7 + 1;
                    int cy = corner / 7 + 1;
                    int print = new Field().around(cx, cy, fours[i]).on(x);
                    Due.is("turn of corner " + corner, due[i], x.turn(print, corner));
                    // those beside it have blank cells
                    Due.is("turn beside corner " + corner, -1, x.turn(print, corner == 48 ? 41 : corner + 1));
                    Due.is("turn beside corner " + corner, -1, x.turn(print, corner == 0 ? 8 : corner - 1));
                }
            }
        }
    }

    private static void noSuchCorner() {
        for (int corner : new int[] {-1, 49, MIN, MAX}) {
            Twins.same("turn of corner " + corner, Past::rich, x -> Due.outside("turn", () -> x.turn(0, corner)));
        }
        RidgeBureau x = new RidgeBureau();
        new Field().core(1, 1).delta(7, 7).on(x);
        Due.is("corner 0", 8, x.turn(0, 0));
        Due.is("corner 48", -8, x.turn(0, 48));
    }

    private static void promises6and7() {
        Edge.of(6, "DIRECTION of a CELL; NONE: BLANK.", PrintEdges::cells);
        Edge.ofTerms("8 times 8 CELLS, x 0 to 7, y 0 to 7, number 8 y + x", PrintEdges::cells);
        Edge.ofTerms("IndexOutOfBoundsException: there is no such PRINT, CELL", PrintEdges::noSuchCell);
        Edge.of(6, "throws IndexOutOfBoundsException", PrintEdges::noSuchCell);
        Edge.ofTerms("what the DIRECTION is more, modulo 8, as - 3 to 4 (4: it is UNSURE)", PrintEdges::allCorners);
        Edge.of(7, "TURN of a CORNER; NONE: there is none.", PrintEdges::allCorners);
        Edge.ofTerms("(So each is told alone; TURN can be no other number than - 8, 0 and 8.)", PrintEdges::allCorners);
        Edge.ofTerms("one that is 8 further is the same", PrintEdges::roundTheDirections);
        Edge.ofTerms("none, if a CELL is BLANK or a STEP UNSURE.", PrintEdges::blankOrUnsure);
        Edge.ofTerms("CORNERS x 1 to 7, y 1 to 7, number 7 (y - 1) + x - 1", PrintEdges::eachCorner);
        Edge.of(7, "throws IndexOutOfBoundsException", PrintEdges::noSuchCorner);
    }

    // ---- promise 8

    private static void countsOfSingulars() {
        RidgeBureau x = new RidgeBureau();
        for (int cores = 0; cores <= 3; cores++) {
            for (int deltas = 0; deltas <= 3; deltas++) {
                Field field = new Field();
                for (int i = 0; i < cores; i++) {
                    field.core(3 * i + 1, 1);
                }
                for (int i = 0; i < deltas; i++) {
                    field.delta(3 * i + 1, 7);
                }
                // as many of both: none is an arch, one a tent (they stand one above the other), two a whorl
                int due = cores != deltas || cores == 3 ? 5 : cores == 2 ? 4 : cores;
                int print = field.on(x);
                Due.is("pattern of " + cores + " cores, " + deltas + " deltas", due, x.pattern(print));
                Due.is("core " + cores, -1, x.singular(print, cores, false));
                Due.is("delta " + deltas, -1, x.singular(print, deltas, true));
            }
        }
        Due.is("a field that is all blank", 0, x.pattern(new Field().on(x)));
    }

    private static void sidesOfTheDelta() {
        for (int coreY : new int[] {1, 7}) {
            RidgeBureau x = new RidgeBureau();
            for (int coreX = 1; coreX <= 7; coreX++) {
                for (int deltaX = 1; deltaX <= 7; deltaX++) {
                    int print = new Field().core(coreX, coreY).delta(deltaX, 8 - coreY).on(x);
                    int due = deltaX == coreX ? 1 : deltaX > coreX ? 2 : 3;
                    Due.is("pattern of a core at " + coreX + ", a delta at " + deltaX, due, x.pattern(print));
                }
            }
        }
    }

    // ---- promise 9

    private static void numberedByCorners() {
        RidgeBureau x = new RidgeBureau();
        Field cores = new Field();
        Field deltas = new Field();
        for (int i = 8; i >= 0; i--) {
            cores.core(i % 3 * 3 + 1, i / 3 * 3 + 1);
            deltas.delta(i % 3 * 3 + 1, i / 3 * 3 + 1);
        }
        cores.on(x);
        deltas.on(x);
        for (int i = 0; i < 9; i++) {
            int due = Field.corner(i % 3 * 3 + 1, i / 3 * 3 + 1);
            Due.is("core " + i, due, x.singular(0, i, false));
            Due.is("delta " + i, due, x.singular(1, i, true));
            Due.is("delta " + i + " of cores alone", -1, x.singular(0, i, true));
            Due.is("core " + i + " of deltas alone", -1, x.singular(1, i, false));
        }
        for (int n : new int[] {9, -1, MIN, MAX}) {
            Due.is("core " + n, -1, x.singular(0, n, false));
            Due.is("delta " + n, -1, x.singular(1, n, true));
        }
    }

    // ---- promise 10

    private static final int[] ALONG_X = {0, 1, 2, 3, 3, 3, 2, 1, 0};
    private static final int[] ALONG_Y = {3, 3, 2, 1, 0, 1, 2, 3, 0};

    private static void crossed(String what, int due, Field field) {
        RidgeBureau x = new RidgeBureau();
        Due.is(what, due, x.ridges(field.on(x)));
    }

    /** One cell of each direction, and a blank one, is crossed each way; what the core and the delta cross stays. */
    private static void ridgesOfACell() {
        for (int i = 0; i <= 8; i++) {
            int d = i == 8 ? -1 : i;
            // right along y = 2 by (2, 2), which is 4, and (3, 2); down along x = 4 by (4, 5), which is 6
            crossed("right by " + d, 3 + ALONG_X[i] + 2, new Field().core(2, 2).delta(4, 6).cell(3, 2, d));
            // left along y = 2 by (5, 2), which is 6, (4, 2) and (3, 2); down along x = 3 by (3, 5), which is 6
            crossed("left by " + d, 2 + ALONG_X[i] + 2, new Field().core(6, 2).delta(3, 6).cell(4, 2, d));
            // right by (2, 2), which is 4; down along x = 3 by (3, 2) to (3, 5), which is 6
            crossed("down by " + d, 3 + ALONG_Y[i] + 2, new Field().core(2, 2).delta(3, 6).cell(3, 4, d));
            // right by (2, 6), which is 4; up along x = 3 by (3, 5) to (3, 2), which is 4
            crossed("up by " + d, 3 + ALONG_Y[i], new Field().core(2, 6).delta(3, 2).cell(3, 4, d));
            // a tent: from (2, 2) down by (2, 2), which is 4, (2, 3), (2, 4) and (2, 5), which is 6
            crossed("a tent's by " + d, ALONG_Y[i] + 2, new Field().core(2, 2).delta(2, 6).cell(2, 3, d));
        }
    }

    /** Cells beside the way: those above it, left of it, beyond its ends, and on the way along y first. */
    private static void besideTheWay() {
        int[][] beside = {{3, 1}, {4, 1}, {4, 2}, {5, 2}, {3, 3}, {3, 4}, {2, 3}, {2, 4}, {1, 4}, {3, 7}, {5, 5}};
        for (int[] cell : beside) {
            RidgeBureau x = new RidgeBureau();
            int print = new Field().core(2, 2).delta(4, 6).cell(cell[0], cell[1], 3).on(x);
            // (4, 2) is right of the line from (4, 2) to (4, 3): 3 crosses 1
            int due = cell[0] == 4 && cell[1] == 2 ? 6 : 5;
            Due.is("ridges with a cell at " + cell[0] + ", " + cell[1], due, x.ridges(print));
        }
    }

    private static void otherPatterns() {
        RidgeBureau x = new RidgeBureau();
        Field way = new Field().core(2, 2).cell(3, 2, 4).cell(4, 2, 4).cell(5, 2, 4);
        Due.is("a core alone", 0, x.ridges(way.on(x)));
        Due.is("with a delta: 3 3 3 3 along x, 2 along y", 14, x.ridges(way.delta(6, 6).on(x)));
        Due.is("with two deltas", 0, x.ridges(way.delta(1, 6).on(x)));
        Due.is("with two of each: from the first core to the first delta", 6, x.ridges(way.core(7, 2).on(x)));
        Due.is("with three cores", 0, x.ridges(new Field().core(1, 1).core(4, 1).core(7, 1).delta(1, 7).on(x)));
        Due.is("an arch", 0, x.ridges(new Field().cell(2, 2, 4).on(x)));
        // from (1, 1) to (7, 7): 12 cells of 3 ridges, but for those of the delta's that lie on the way
        Field most = new Field().core(1, 1).delta(7, 7);
        for (int i = 2; i < 7; i++) {
            most.cell(i, 1, 4);
            most.cell(7, i - 1, 0);
        }
        most.cell(7, 6, 6);
        Due.is("the longest way", 6 * 3 + 5 * 3 + 2, x.ridges(most.on(x)));
    }

    private static void promises8to10() {
        Edge.of(8, "PATTERN.", PrintEdges::countsOfSingulars);
        Edge.ofTerms("0 ARCH: no CORE, no DELTA; one of each", PrintEdges::countsOfSingulars);
        Edge.ofTerms("4 WHORL: two of each; 5 ODD: anything else", PrintEdges::countsOfSingulars);
        Edge.ofTerms("1 TENT, if both have one x, 2 LEFT, if the DELTA's x is greater, 3 RIGHT, if less",
                PrintEdges::sidesOfTheDelta);
        Edge.ofTerms("CORES and DELTAS are numbered by their CORNERS", PrintEdges::numberedByCorners);
        Edge.of(9, "CORNER of CORE n (delta false) or DELTA n; NONE if there is none such",
                PrintEdges::numberedByCorners);
        Edge.ofTerms("0, 1, 2, 3, 3, 3, 2, 1 ridges for DIRECTIONS 0 to 7; along y by the CELL that is right of it,"
                + " 3, 3, 2, 1, 0, 1, 2, 3.", PrintEdges::ridgesOfACell);
        Edge.ofTerms("CORNER by CORNER, first along x, then along y", PrintEdges::besideTheWay);
        Edge.ofTerms("A BLANK CELL: 0.", PrintEdges::ridgesOfACell);
        Edge.of(10, "RIDGES.", PrintEdges::besideTheWay);
        Edge.ofTerms("RIDGES of a PRINT with PATTERN 1 to 4 (else 0)", PrintEdges::otherPatterns);
    }

    // ---- promise 11

    private static final int[][] NO_POINTS = {{-1, 0, 0, 0}, {64, 0, 0, 0}, {0, -1, 0, 0}, {0, 64, 0, 0}, {0, 0, -1, 0},
        {0, 0, 3, 0}, {0, 0, 0, -1}, {0, 0, 0, 16}, {MIN, 0, 0, 0}, {0, MAX, 0, 0}, {0, 0, MAX, 0}, {0, 0, 0, MIN}};

    private static void pointsNumbers() {
        int[][] edges = {{0, 0, 0, 0}, {63, 0, 0, 0}, {0, 63, 0, 0}, {0, 0, 2, 0}, {0, 0, 0, 15}, {63, 63, 2, 15}};
        RidgeBureau x = new RidgeBureau();
        Due.print(x, Due.ARCH);
        for (int i = 0; i < edges.length; i++) {
            int[] p = edges[i];
            Due.is("point", i, x.point(0, p[0], p[1], p[2], p[3]));
        }
        for (int[] p : NO_POINTS) {
            Twins.same("point " + p[0] + " " + p[1] + " " + p[2] + " " + p[3], Past::rich,
                    y -> Due.illegal("point", () -> y.point(2, p[0], p[1], p[2], p[3])));
        }
        Due.outside("no such print is told first", () -> x.point(1, 64, 0, 0, 0));
        Due.outside("no such print is told first", () -> x.point(-1, 0, 0, 3, 0));
    }

    /** Seven points on print 2, which has one: 8. */
    private static void eightPoints(RidgeBureau x) {
        Past.rich(x);
        for (int i = 1; i < 8; i++) {
            Due.is("point", i, x.point(2, 30 + i, 30, 0, i));
        }
    }

    private static void ninthPoint() {
        Twins.same("a 9th point", PrintEdges::eightPoints, x -> Due.is("point", -1, x.point(2, 5, 5, 2, 0)));
        Twins.same("a wrong 9th point", PrintEdges::eightPoints,
                x -> Due.illegal("point", () -> x.point(2, 5, 5, 2, 16)));
        RidgeBureau x = new RidgeBureau();
        eightPoints(x);
        Due.is("a 9th", -1, x.point(2, 5, 5, 2, 0));
        Due.is("another print has room", 2, x.point(0, 5, 5, 2, 0));
        // the 8th counts: a mark of all eight pairs with each of them
        int mark = x.mark(0, 0, 63, 63, false);
        x.spot(mark, 20, 21, 0, 1);
        for (int i = 1; i < 8; i++) {
            x.spot(mark, 30 + i, 30, 0, i);
        }
        x.slack(0);
        Due.is("pairs", 8, x.lay(mark, 2, 0));
        Due.is("against", 0, x.lay(mark, 2, 1));
    }

    private static void promise11() {
        Edge.of(11, "IllegalArgumentException: a number is none.", PrintEdges::pointsNumbers);
        Edge.ofTerms("x and y 0 to 63, a KIND (0 end, 1 fork, 2 unsure), a HEADING 0 to 15", PrintEdges::pointsNumbers);
        Edge.of(11, "NONE, and it does not come, if it has 8", PrintEdges::ninthPoint);
        Edge.ofTerms("POINTS of a PRINT (at most 8, numbered from 0 on)", PrintEdges::ninthPoint);
    }

    public static void main(String[] args) {
        promise1();
        promises2and3();
        promises4and5();
        promises6and7();
        promises8to10();
        promise11();
        Edge.end(1, 2, 3, 4, 5, 6, 7, 8, 9, 10, 11);
    }
}
