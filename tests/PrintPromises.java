/** Promises 1 to 11: a new object, the tape, and prints. */
public final class PrintPromises {
    private static final int MIN = Integer.MIN_VALUE;
    private static final int MAX = Integer.MAX_VALUE;

    private static void promise1() {
        RidgeBureau x = new RidgeBureau();
        int[] due = {0, 0, 0, 0, 0, 0, 0, 0, 0, 0, 1, 10};
        for (int what = 0; what < due.length; what++) {
            Due.is("count(" + what + ") of a new object", due[what], x.count(what));
        }
        Due.is("fault ahead of any text", -1, x.fault());
        Due.is("end of an empty tape", true, x.end(0));
        Due.is("end of an empty tape", false, x.end(1));
        Due.is("back without an image", false, x.back());
        Due.is("check", -1, x.check());
        Due.is("persons", 0, x.persons(0, false));
        Due.outside("pattern", () -> x.pattern(0));
        Due.outside("left", () -> x.left(0));
        Due.outside("kind", () -> x.kind(0, 0));
        RidgeBureau other = new RidgeBureau();
        Due.print(other, Due.ARCH);
        Due.is("another object has nothing of it", 0, x.count(1));
        Due.is("NONE", -1, RidgeBureau.NONE);
    }

    private static void promise2() {
        RidgeBureau x = new RidgeBureau();
        for (int i = 1; i <= 20; i++) {
            Due.is("feed", 20 * i, x.feed(i, i, i, i, i));
        }
        Due.is("feed beyond 400", -1, x.feed(0, 0, 0, 0, 0));
        Due.is("400 bytes stay", true, x.end(400));
        Due.is("end", true, x.end(381));
        Due.is("feed that would make 401", -1, x.feed(0, 0, 0, 0, 0));
        Due.is("none of its bytes came", false, x.end(382));
        Due.is("end", true, x.end(380));
        Due.is("feed to 400", 400, x.feed(0, 0, 0, 0, 0));
        // 01234567/......../89: the highest byte of each number comes first
        RidgeBureau order = new RidgeBureau();
        order.feed(0x30313233, 0x34353637, 0x2F2E2E2E, 0x2E2E2E2E, 0x2E2F3839);
        order.end(18);
        Due.illegal("print", order::print);
        Due.is("all but more to come", 18, order.fault());
        order.feed(0x30313233, 0x34353637, 0x2F2E2E2E, 0x2E2E2E2E, 0x2E2F3839);
        Due.illegal("print", order::print);
        Due.is("8 is no sign", 18, order.fault());
        order.feed(0x30313280, 0, 0, 0, 0);
        Due.illegal("print", order::print);
        Due.is("byte 128 is no sign", 3, order.fault());
    }

    private static void promise3() {
        RidgeBureau x = new RidgeBureau();
        x.feed(0x30303030, 0x30303030, 0x2F303030, 0, 0);
        Due.is("end(21) of 20", false, x.end(21));
        Due.is("end(-1)", false, x.end(-1));
        Due.is("end(MIN)", false, x.end(MIN));
        Due.is("end(MAX)", false, x.end(MAX));
        Due.is("end(20) of 20", true, x.end(20));
        Due.is("end(12) of 20", true, x.end(12));
        Due.is("end(13) of 12", false, x.end(13));
        Due.illegal("print", x::print);
        Due.is("more must come behind 12", 12, x.fault());
        x.feed(0, 0, 0, 0, 0);
        Due.is("end(0)", true, x.end(0));
        Due.is("end(1) of 0", false, x.end(1));
    }

    private static void promise4() {
        RidgeBureau x = new RidgeBureau();
        Due.is("first print", 0, Due.print(x, Due.ARCH));
        Due.is("the tape is used up", false, x.end(1));
        Due.is("second print", 1, Due.print(x, "  " + Due.LEFT.replace("/", " / ") + " "));
        Due.is("its pattern", 2, x.pattern(1));
        Due.is("blanks between signs", 2, Due.print(x, "0 1 2 3 4 5 6 7" + Due.ARCH.substring(8)));
        Due.is("its 8th cell", 7, x.field(2, 7));
        for (int i = 3; i < 60; i++) {
            Due.is("print", i, Due.print(x, Due.ARCH));
        }
        Due.write(x, Due.ARCH);
        Due.unsupported("a 61st print", x::print);
        Due.is("a right text has no fault", -1, x.fault());
        Due.is("the tape is used up", false, x.end(1));
        Due.write(x, "000");
        Due.illegal("a wrong text is told ahead of there being 60", x::print);
        Due.is("its fault", 3, x.fault());
        Due.is("prints", 60, x.count(1));
    }

    private static void promise5() {
        String row = "01234567/";
        Due.badPrint("", 0);
        Due.badPrint("   ", 3);
        Due.badPrint("0", 1);
        Due.badPrint("8", 0);
        Due.badPrint(" x", 1);
        Due.badPrint("0123456/", 7);
        Due.badPrint("/", 0);
        Due.badPrint("012345670", 8);
        Due.badPrint("01234567.", 8);
        Due.badPrint("01234567 8", 9);
        Due.badPrint(row + "/", 9);
        Due.badPrint(row.repeat(8).substring(0, 70), 70);
        Due.badPrint(row.repeat(8), 71);
        Due.badPrint(row.repeat(7), 63);
        Due.badPrint(row.repeat(8).substring(0, 71) + "0", 71);
        Due.badPrint(row.repeat(8).substring(0, 71) + " 1", 72);
        Due.badPrint(row.repeat(7) + "0123/", 67);
        RidgeBureau x = new RidgeBureau();
        Due.write(x, "0/");
        Due.illegal("print", x::print);
        Due.is("fault", 1, x.fault());
        Due.rules(x, 0, "need 1");
        Due.is("a right text has none", -1, x.fault());
        Due.write(x, "need 7");
        Due.illegal("rules", () -> x.rules(0));
        Due.is("fault of rules", 5, x.fault());
        Due.write(x, "need 1 ?");
        Due.illegal("rules ahead of today", () -> x.rules(-1));
        Due.is("a text that was not read has no part in it", 5, x.fault());
        Due.print(x, Due.ARCH);
        Due.is("a right field has none", -1, x.fault());
    }

    private static void promise6() {
        RidgeBureau x = new RidgeBureau();
        Due.print(x, "01234567/.1.3.5.7/00000000/00000000/00000000/00000000/00000000/7654321.");
        for (int i = 0; i < 8; i++) {
            Due.is("field", i, x.field(0, i));
            Due.is("field", i % 2 == 0 ? -1 : i, x.field(0, 8 + i));
            Due.is("field", i == 7 ? -1 : 7 - i, x.field(0, 56 + i));
        }
        Due.outside("cell 64", () -> x.field(0, 64));
        Due.outside("cell -1", () -> x.field(0, -1));
        Due.outside("print 1", () -> x.field(1, 0));
        Due.outside("print -1", () -> x.field(-1, 0));
        Due.outside("cell MAX", () -> x.field(0, MAX));
        Due.outside("print MIN", () -> x.field(MIN, 0));
    }

    private static void promise7() {
        RidgeBureau x = new RidgeBureau();
        // corners of the first row: around 0 the cells 0 2 / 6 4, and so on
        Due.print(x, "02040070/64320171/00000000/00000000/00000000/00000000/00000000/.0000000");
        Due.is("0 2 4 6 turns 8", 8, x.turn(0, 0));
        Due.is("2 0 3 4: - 2 + 3 + 1 - 2", 0, x.turn(0, 1));
        Due.is("0 4 is unsure", -1, x.turn(0, 2));
        Due.is("unsure on its other side", -1, x.turn(0, 3));
        Due.is("0 0 1 0", 0, x.turn(0, 4));
        Due.is("0 7 7 1: - 1 + 0 + 2 - 1", 0, x.turn(0, 5));
        Due.is("7 0 1 7: 1 + 1 - 2 + 0", 0, x.turn(0, 6));
        Due.is("a blank cell", -1, x.turn(0, 42));
        Due.is("none is blank", 0, x.turn(0, 43));
        Due.print(x, "06000000/24000000/00000000/00000000/00000000/00000000/00000000/00000000");
        Due.is("0 6 4 2 turns - 8", -8, x.turn(1, 0));
        // 3 and - 3 are sure: 0 3 6 1 turns 3 + 3 + 3 - 1, 0 5 2 7 the other way
        Due.print(x, "03000052/16000077/00000000/00000000/00000000/00000000/00000000/00000000");
        Due.is("0 3 6 1 turns 8", 8, x.turn(2, 0));
        Due.is("5 2 7 7: - 3 - 3 + 0 - 2", -8, x.turn(2, 6));
        Due.outside("corner 49", () -> x.turn(0, 49));
        Due.outside("corner -1", () -> x.turn(0, -1));
        Due.outside("print 3", () -> x.turn(3, 0));
        Due.outside("print -1", () -> x.turn(-1, 0));
    }

    private static void promise8() {
        RidgeBureau x = new RidgeBureau();
        String[] fields = {Due.ARCH, Due.TENT, Due.LEFT, Due.RIGHT, Due.WHORL, Due.ODD};
        for (int i = 0; i < fields.length; i++) {
            Due.print(x, fields[i]);
            Due.is("pattern " + i, i, x.pattern(i));
        }
        // a delta alone; two cores and a delta
        Due.print(x, "06000000/24000000/44000000/44000000/44000000/44000000/44000000/44000000");
        Due.is("a delta alone is no core alone", -1, x.singular(6, 0, false));
        Due.is("its pattern", 5, x.pattern(6));
        Due.print(x, Due.WHORL.replace("/02200220/02200220/02200220/64466446", "/02200220/02200220/02200220/6446644."));
        Due.is("two cores and a delta", 5, x.pattern(7));
        Due.outside("print 8", () -> x.pattern(8));
        Due.outside("print -1", () -> x.pattern(-1));
    }

    private static void promise9() {
        RidgeBureau x = new RidgeBureau();
        Due.print(x, Due.WHORL);
        Due.is("core 0", 21, x.singular(0, 0, false));
        Due.is("core 1", 25, x.singular(0, 1, false));
        Due.is("core 2", -1, x.singular(0, 2, false));
        Due.is("core -1", -1, x.singular(0, -1, false));
        Due.is("delta 0", 23, x.singular(0, 0, true));
        Due.is("delta 1", 27, x.singular(0, 1, true));
        Due.is("delta 2", -1, x.singular(0, 2, true));
        Due.is("delta MIN", -1, x.singular(0, MIN, true));
        Due.is("delta MAX", -1, x.singular(0, MAX, true));
        Due.print(x, "02000000/64000000/44000000/44000000/44000000/44000000/44000000/44000000");
        Due.is("a core at the first corner", 0, x.singular(1, 0, false));
        Due.print(x, "00000044/00000044/00000044/00000044/00000044/00000044/00000002/00000064");
        Due.is("a core at the last corner", 48, x.singular(2, 0, false));
        Due.outside("print 3", () -> x.singular(3, 0, true));
        Due.outside("print -1", () -> x.singular(-1, 0, true));
    }

    private static void promise10() {
        RidgeBureau x = new RidgeBureau();
        String[] fields = {Due.ARCH, Due.TENT, Due.LEFT, Due.RIGHT, Due.WHORL, Due.ODD, Due.FAR_LEFT};
        int[] due = {0, 0, 9, 9, 6, 0, 12};
        for (int i = 0; i < fields.length; i++) {
            Due.print(x, fields[i]);
            Due.is("ridges " + i, due[i], x.ridges(i));
        }
        // a tent whose core lies above its delta by 3: along y the cells right of the line, 4 4 4 (0 each)
        // become 5, 7 and blank (1, 3 and 0), which leaves its turns as they are
        Due.print(x, "00002222/00002222/66665444/66664444/66664444/00002222/00002222/00002222");
        Due.is("a tent still", 1, x.pattern(7));
        Due.is("a 5 along y", 1, x.ridges(7));
        // a line of one row: the core at (3, 4), the delta at (6, 4), below it 5 5 4
        Due.print(x, "00222000/00222000/00222000/00222000/66455666/66455666/66455666/66455666");
        Due.is("a left one still", 2, x.pattern(8));
        Due.is("from (2, 4) to (5, 4): 4 5 5", 9, x.ridges(8));
        Due.print(x, "00222000/00222000/00222000/00222000/66477666/66477666/66477666/66477666");
        Due.is("4 7 makes the corner between them the delta", 23, x.singular(9, 0, true));
        Due.is("from (2, 4) to (3, 4): 4", 3, x.ridges(9));
        Due.print(x, Due.LEFT.replaceFirst("66444666", "664.4666"));
        Due.is("a blank cell does not end the pattern", 2, x.pattern(10));
        Due.is("a blank cell along x: 4 . 4", 6, x.ridges(10));
        Due.print(x, turned(Due.TENT, 4).replaceFirst("22220000/22220000", "22220000/2222.000"));
        Due.is("still a tent", 1, x.pattern(11));
        Due.is("a blank cell along y: 0 . 0", 6, x.ridges(11));
        Due.outside("print 12", () -> x.ridges(12));
        Due.outside("print -1", () -> x.ridges(-1));
        ridgesByDirection();
    }

    /** A field whose directions are all so much more; so its corners turn as they did. */
    private static String turned(String field, int more) {
        StringBuilder text = new StringBuilder(field);
        for (int i = 0; i < text.length(); i++) {
            if (text.charAt(i) != '/') {
                text.setCharAt(i, (char) ('0' + (text.charAt(i) - '0' + more) % 8));
            }
        }
        return text.toString();
    }

    private static void ridgesByDirection() {
        int[] alongX = {0, 1, 2, 3, 3, 3, 2, 1};
        int[] alongY = {3, 3, 2, 1, 0, 1, 2, 3};
        for (int more = 0; more < 8; more++) {
            RidgeBureau x = new RidgeBureau();
            Due.print(x, turned(Due.LEFT, more));
            Due.print(x, turned(Due.RIGHT, more));
            Due.print(x, turned(Due.TENT, more));
            int crossed = (4 + more) % 8;
            Due.is("three along x", 3 * alongX[crossed], x.ridges(0));
            Due.is("three along x, the other way", 3 * alongX[crossed], x.ridges(1));
            Due.is("three along y", 3 * alongY[crossed], x.ridges(2));
        }
    }

    private static void promise11() {
        RidgeBureau x = new RidgeBureau();
        Due.outside("no such print is told ahead", () -> x.point(0, 64, 0, 0, 0));
        Due.print(x, Due.ARCH);
        int[][] wrong = {{-1, 0, 0, 0}, {64, 0, 0, 0}, {0, -1, 0, 0}, {0, 64, 0, 0}, {0, 0, -1, 0}, {0, 0, 3, 0},
            {0, 0, 0, -1}, {0, 0, 0, 16}, {MAX, MAX, MAX, MAX}, {MIN, MIN, MIN, MIN}};
        for (int[] p : wrong) {
            Due.illegal("point", () -> x.point(0, p[0], p[1], p[2], p[3]));
        }
        Due.is("point", 0, x.point(0, 0, 0, 0, 0));
        Due.is("point", 1, x.point(0, 63, 63, 1, 15));
        for (int i = 2; i < 8; i++) {
            Due.is("point", i, x.point(0, 5, 5, 1, i));
        }
        Due.is("a 9th point", -1, x.point(0, 5, 5, 0, 2));
        Due.illegal("a wrong number is told ahead of there being 8", () -> x.point(0, 64, 0, 0, 0));
        Due.outside("print 1", () -> x.point(1, 0, 0, 0, 0));
        Due.outside("print -1", () -> x.point(-1, 0, 0, 0, 0));
        // the 9th did not come: a mark of one point finds none that it pairs with
        x.mark(0, 0, 63, 63, false);
        x.spot(0, 5, 5, 0, 2);
        Due.is("pairs", 0, x.lay(0, 0, 0));
    }

    public static void main(String[] args) {
        promise1();
        promise2();
        promise3();
        promise4();
        promise5();
        promise6();
        promise7();
        promise8();
        promise9();
        promise10();
        promise11();
        Due.end();
    }
}
