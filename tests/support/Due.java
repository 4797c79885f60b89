/** What the tests of single promises share: a count of wrong answers, and texts put on the tape. */
final class Due {
    static final String ARCH = "00000000/00000000/00000000/00000000/00000000/00000000/00000000/00000000";
    static final String TENT = "00002222/00002222/66664444/66664444/66664444/00002222/00002222/00002222";
    static final String LEFT = "00222000/00222000/00222000/00222000/66444666/66444666/66444666/66444666";
    static final String FAR_LEFT = "02222000/02222000/02222000/02222000/64444666/64444666/64444666/64444666";
    static final String RIGHT = "00666000/00666000/00666000/00666000/22444222/22444222/22444222/22444222";
    static final String WHORL = "02200220/02200220/02200220/02200220/64466446/64466446/64466446/64466446";
    static final String ODD = "00002222/00002222/00002222/00002222/66664444/66664444/66664444/66664444";

    interface Call {
        void go();
    }

    private static int wrong;
    private static String about = "";

    private Due() {
    }

    /** What stands ahead of each wrong answer that is printed from now on. */
    static void about(String what) {
        about = what;
    }

    static void is(String what, long due, long got) {
        if (due != got) {
            wrong++;
            System.out.println(about + what + " answered " + got + ", due is " + due);
        }
    }

    static void is(String what, boolean due, boolean got) {
        is(what, due ? 1 : 0, got ? 1 : 0);
    }

    /** The very class is due: none of the machine's own below it. */
    static void thrown(String what, Class<? extends RuntimeException> due, Call call) {
        String got = "nothing";
        try {
            call.go();
        } catch (RuntimeException e) {
            got = e.getClass().getName();
        }
        if (!got.equals(due.getName())) {
            wrong++;
            System.out.println(about + what + " threw " + got + ", due is " + due.getName());
        }
    }

    static void outside(String what, Call call) {
        thrown(what, IndexOutOfBoundsException.class, call);
    }

    static void illegal(String what, Call call) {
        thrown(what, IllegalArgumentException.class, call);
    }

    static void unsupported(String what, Call call) {
        thrown(what, UnsupportedOperationException.class, call);
    }

    static void noSuch(String what, Call call) {
        thrown(what, java.util.NoSuchElementException.class, call);
    }

    /** Puts a text on the tape, which must be empty. */
    static void write(RidgeBureau x, String text) {
        for (int i = 0; i < text.length(); i += 20) {
            int[] n = new int[5];
            for (int j = 0; j < 20 && i + j < text.length(); j++) {
                n[j / 4] |= text.charAt(i + j) << 24 - j % 4 * 8;
            }
            is("feed", i + 20, x.feed(n[0], n[1], n[2], n[3], n[4]));
        }
        is("end", true, x.end(text.length()));
    }

    static int print(RidgeBureau x, String text) {
        write(x, text);
        return x.print();
    }

    static int rules(RidgeBureau x, int day, String text) {
        write(x, text);
        return x.rules(day);
    }

    /** A text of a field must be refused, its first wrong byte told. */
    static void badPrint(String text, int fault) {
        RidgeBureau x = new RidgeBureau();
        write(x, text);
        illegal("print of '" + text + "'", x::print);
        is("fault of '" + text + "'", fault, x.fault());
        is("prints", 0, x.count(1));
        is("the tape is used up", true, !x.end(1));
    }

    /** A text of rules must be refused, its first wrong byte told. */
    static void badRules(String text, int fault) {
        RidgeBureau x = new RidgeBureau();
        write(x, text);
        illegal("rules of '" + text + "'", () -> x.rules(0));
        is("fault of '" + text + "'", fault, x.fault());
        is("texts", 0, x.count(5));
        is("the tape is used up", true, !x.end(1));
    }

    static void goodRules(String text, int rules) {
        RidgeBureau x = new RidgeBureau();
        is("rules of '" + text + "'", rules, rules(x, 0, text));
        is("fault of '" + text + "'", -1, x.fault());
        is("rules of today", rules, x.count(6));
    }

    static void end() {
        System.out.println(wrong == 0 ? "all answers are as due" : wrong + " answers are not as due");
        if (wrong != 0) {
            System.exit(1);
        }
    }
}
