import java.util.NoSuchElementException;

/** A bureau of finger ridges; ../shared/DOC.md tells what each call does. */
public final class RidgeBureau {
    public static final int NONE = -1;

    private static final int MOST_PRINTS = 60;
    private static final int MOST_MARKS = 20;
    private static final int MOST_CARDS = 16;
    private static final int MOST_TEXTS = 10;
    private static final int MOST_SAYINGS = 200;
    private static final int MOST_HITS = 200;
    private static final int MOST_BYTES = 400;
    private static final int MOST_POINTS = 8;
    private static final int MOST_RULES = 12;
    private static final int MOST_DEEP = 6;
    private static final int MOST_DOUBTFUL = 4;
    private static final int MOST_READINGS = 16;
    private static final int LAST_DAY = 2000;
    private static final int MOST_DAYS = 40;
    private static final int MOST_COMPARISONS = 60;
    private static final int MOST_SLACK = 8;
    private static final int GREATEST_NAME = 9999;
    private static final int GREATEST_NUMBER = 9999;
    private static final int MOST_DIGITS = 4;
    private static final int EXAMINERS = 6;
    private static final int FINGERS = 10;
    private static final int HAND = 5;
    private static final int ROWS = 6;

    private static final int SIDE = 8;
    private static final int CELLS = 64;
    private static final int CORNERS_A_LINE = 7;
    private static final int CORNERS = 49;
    private static final int LAST_PLACE = 63;
    private static final int TURNS = 4;
    private static final int HEADINGS = 16;
    private static final int KINDS = 3;
    private static final int UNSURE_KIND = 2;

    private static final int CORE = 8;
    private static final int DELTA = -8;
    private static final int UNSURE_STEP = 4;
    private static final int ARCH = 0;
    private static final int TENT = 1;
    private static final int LEFT = 2;
    private static final int RIGHT = 3;
    private static final int WHORL = 4;
    private static final int ODD = 5;
    private static final int FEW_RIDGES = 9;
    private static final int LAST_CLASS = 7;
    private static final int CLASS_BITS = 3;
    private static final int HAND_BITS = 15;
    private static final int HAND_MASK = 32767;

    private static final int NOT = 0;
    private static final int SAME = 1;
    private static final int OPEN = 2;

    private static final int TAGS_OF_A_CARD = 3;
    private static final int LAY_WHATS = 5;
    private static final int LOOK_WHATS = 6;
    private static final int HIT_WHATS = 6;

    private static final int SAYING_EXAMINER = 0;
    private static final int SAYING_MARK = 1;
    private static final int SAYING_CARD = 2;
    private static final int SAYING_FINGER = 3;
    private static final int SAYING_WHAT = 4;
    private static final int SAYING_DAY = 5;
    private static final int SAYING_WIDTH = 6;

    private static final int HIT_MARK = 0;
    private static final int HIT_CARD = 1;
    private static final int HIT_FINGER = 2;
    private static final int HIT_VERDICT = 3;
    private static final int HIT_PAIRS = 4;
    private static final int HIT_DAY = 5;
    private static final int HIT_TRUE_PAIRS = 6;
    private static final int HIT_WIDTH = 7;

    private final Tape tape = new Tape();
    private final State now = new State();
    private final State imageState = new State();
    private boolean hasImage;
    private final Lays lays = new Lays();
    private final Facts facts = new Facts();
    private final Print draftPrint = new Print();
    private final RuleText draftRules = new RuleText();
    private final int[] readings = new int[MOST_READINGS];
    private final int[] otherReadings = new int[MOST_READINGS];
    private final int[] lastSaid = new int[EXAMINERS];
    private final int[] leaders = new int[MOST_CARDS];

    public RidgeBureau() {
    }

    // ---- the tape

    public int feed(int a, int b, int c, int d, int e) {
        if (!tape.hasRoom()) {
            return NONE;
        }
        tape.append(a);
        tape.append(b);
        tape.append(c);
        tape.append(d);
        tape.append(e);
        return tape.length;
    }

    public boolean end(int n) {
        if (n < 0 || n > tape.length) {
            return false;
        }
        tape.length = n;
        return true;
    }

    public int fault() {
        return tape.fault;
    }

    // ---- prints

    public int print() throws IllegalArgumentException, UnsupportedOperationException {
        boolean right = draftPrint.readField(tape);
        tape.length = 0;
        if (!right) {
            throw new IllegalArgumentException("the text is wrong");
        }
        if (now.printCount >= MOST_PRINTS) {
            throw new UnsupportedOperationException("there are 60 prints");
        }
        draftPrint.settle();
        now.prints[now.printCount].copyFrom(draftPrint);
        now.printCount++;
        return now.printCount - 1;
    }

    public int field(int print, int cell) throws IndexOutOfBoundsException {
        needPrint(print);
        if (cell < 0 || cell >= CELLS) {
            throw new IndexOutOfBoundsException("no such cell");
        }
        return now.prints[print].cells[cell];
    }

    public int turn(int print, int corner) throws IndexOutOfBoundsException {
        needPrint(print);
        if (corner < 0 || corner >= CORNERS) {
            throw new IndexOutOfBoundsException("no such corner");
        }
        return now.prints[print].turnAround(corner);
    }

    public int pattern(int print) throws IndexOutOfBoundsException {
        needPrint(print);
        return now.prints[print].itsPattern;
    }

    public int singular(int print, int n, boolean delta) throws IndexOutOfBoundsException {
        needPrint(print);
        return now.prints[print].cornerOf(n, delta ? DELTA : CORE);
    }

    public int ridges(int print) throws IndexOutOfBoundsException {
        needPrint(print);
        return now.prints[print].itsRidges;
    }

    public int point(int print, int x, int y, int kind, int heading)
            throws IndexOutOfBoundsException, IllegalArgumentException {
        needPrint(print);
        needPoint(x, y, kind, heading);
        lays.forget();
        return now.prints[print].sheet.add(x, y, kind, heading);
    }

    // ---- marks

    public int mark(int x0, int y0, int x1, int y1, boolean grave)
            throws IllegalArgumentException, UnsupportedOperationException {
        if (!isSpan(x0, x1) || !isSpan(y0, y1)) {
            throw new IllegalArgumentException("no such rectangle");
        }
        if (now.markCount >= MOST_MARKS) {
            throw new UnsupportedOperationException("there are 20 marks");
        }
        Mark made = now.marks[now.markCount];
        made.sheet.begin(x0, y0, x1, y1);
        made.isGrave = grave;
        made.cameOn = now.today;
        now.markCount++;
        return now.markCount - 1;
    }

    public int spot(int mark, int x, int y, int kind, int heading)
            throws IndexOutOfBoundsException, IllegalArgumentException {
        needMark(mark);
        needPoint(x, y, kind, heading);
        lays.forget();
        return now.marks[mark].sheet.add(x, y, kind, heading);
    }

    public void slack(int n) throws IllegalArgumentException {
        if (n < 0 || n > MOST_SLACK) {
            throw new IllegalArgumentException("no such slack");
        }
        now.slackNow = n;
        lays.forget();
    }

    public int lay(int mark, int print, int what) throws IndexOutOfBoundsException, NoSuchElementException {
        needMark(mark);
        needPrint(print);
        if (what < 0 || what >= LAY_WHATS) {
            throw new NoSuchElementException("no such what");
        }
        lays.find(lays.keyOfMark(mark, print), now.marks[mark].sheet, now.prints[print].sheet, now.slackNow);
        switch (what) {
            case 0:
                return lays.pairs;
            case 1:
                return lays.against;
            case 2:
                return lays.quarters;
            case 3:
                return lays.shiftX;
            default:
                return lays.shiftY;
        }
    }

    // ---- cards

    public int card(int name) throws IllegalArgumentException, UnsupportedOperationException {
        if (name < 0 || name > GREATEST_NAME) {
            throw new IllegalArgumentException("no such name");
        }
        if (now.cardCount >= MOST_CARDS) {
            throw new UnsupportedOperationException("there are 16 cards");
        }
        now.cards[now.cardCount].begin(name, now.today);
        now.cardCount++;
        return now.cardCount - 1;
    }

    public boolean finger(int card, int finger, int print) throws IndexOutOfBoundsException {
        needCard(card);
        needFinger(finger);
        if (print != NONE) {
            needPrint(print);
        }
        Card its = now.cards[card];
        if (its.prints[finger] == print) {
            return false;
        }
        its.prints[finger] = print;
        its.compared[finger] = 0;
        return true;
    }

    public boolean doubt(int card, int finger, int itsClass)
            throws IndexOutOfBoundsException, IllegalArgumentException {
        needCard(card);
        needFinger(finger);
        if (itsClass < NONE || itsClass > LAST_CLASS) {
            throw new IllegalArgumentException("no such class");
        }
        Card its = now.cards[card];
        int others = its.doubtful() - (its.seconds[finger] == NONE ? 0 : 1);
        if (others >= MOST_DOUBTFUL) {
            return false;
        }
        its.seconds[finger] = itsClass;
        return true;
    }

    public int kind(int card, int finger) throws IndexOutOfBoundsException {
        needCard(card);
        needFinger(finger);
        return now.classOf(card, finger, 0);
    }

    public int number(int card, boolean lower) throws IndexOutOfBoundsException {
        needCard(card);
        int whole = now.readingOf(card, 0);
        return lower ? whole & HAND_MASK : whole >> HAND_BITS;
    }

    public int drawers(int card) throws IndexOutOfBoundsException {
        needCard(card);
        int count = now.fillReadings(card, readings);
        int unlike = 0;
        for (int i = 0; i < count; i++) {
            if (!holds(readings, i, readings[i])) {
                unlike++;
            }
        }
        return unlike;
    }

    public int like(int card, int n) throws IndexOutOfBoundsException {
        needCard(card);
        int count = now.fillReadings(card, readings);
        int found = 0;
        for (int other = 0; other < now.cardCount; other++) {
            if (other == card || !now.isInFile(other) || !sharesReading(other, count)) {
                continue;
            }
            if (found == n) {
                return other;
            }
            found++;
        }
        return NONE;
    }

    private boolean sharesReading(int other, int count) {
        int others = now.fillReadings(other, otherReadings);
        for (int i = 0; i < others; i++) {
            if (holds(readings, count, otherReadings[i])) {
                return true;
            }
        }
        return false;
    }

    private static boolean holds(int[] list, int count, int value) {
        for (int i = 0; i < count && i < list.length; i++) {
            if (list[i] == value) {
                return true;
            }
        }
        return false;
    }

    // ---- rules

    public int rules(int day) throws IllegalArgumentException, UnsupportedOperationException {
        if (day < now.today || day > LAST_DAY) {
            tape.length = 0;
            throw new IllegalArgumentException("no such day");
        }
        boolean right = draftRules.readRules(tape);
        tape.length = 0;
        if (!right) {
            throw new IllegalArgumentException("the text is wrong");
        }
        if (now.textCount >= MOST_TEXTS) {
            throw new UnsupportedOperationException("there are 10 texts");
        }
        draftRules.from = day;
        now.texts[now.textCount].copyFrom(draftRules);
        now.textCount++;
        return draftRules.rules;
    }

    public int verdict(int mark, int print, int day) throws IndexOutOfBoundsException {
        needMark(mark);
        needPrint(print);
        return now.textOn(day).verdictBy(decidingRule(mark, print, day));
    }

    public int why(int mark, int print, int day) throws IndexOutOfBoundsException {
        needMark(mark);
        needPrint(print);
        return decidingRule(mark, print, day);
    }

    /** The rule by which a mark's verdict upon a print comes; NONE without one. */
    private int decidingRule(int mark, int print, int day) {
        if (!now.isMark(mark) || !now.isPrint(print)) {
            return NONE;
        }
        Mark itsMark = now.marks[mark];
        Print itsPrint = now.prints[print];
        lays.find(lays.keyOfMark(mark, print), itsMark.sheet, itsPrint.sheet, now.slackNow);
        facts.ofLay(lays, itsMark.sheet.points, itsPrint.itsClass);
        facts.setAge((long) day - itsMark.cameOn);
        facts.setTag(Facts.GRAVE, itsMark.isGrave);
        return now.textOn(day).decidingRule(facts);
    }

    // ---- examiners

    public int say(int examiner, int mark, int card, int finger, int what)
            throws IndexOutOfBoundsException, IllegalArgumentException {
        needSaying(examiner, mark, card, finger);
        if (what < NOT || what > OPEN) {
            throw new IllegalArgumentException("nobody says that");
        }
        Table all = now.sayings;
        if (now.printAt(card, finger) == NONE || all.isFull()) {
            return NONE;
        }
        int row = all.open();
        all.put(row, SAYING_EXAMINER, examiner);
        all.put(row, SAYING_MARK, mark);
        all.put(row, SAYING_CARD, card);
        all.put(row, SAYING_FINGER, finger);
        all.put(row, SAYING_WHAT, what);
        all.put(row, SAYING_DAY, now.today);
        return all.rows;
    }

    public int said(int examiner, int mark, int card, int finger, int day) throws IndexOutOfBoundsException {
        needSaying(examiner, mark, card, finger);
        gatherSayings(mark, card, finger, day);
        return lastSaid[examiner];
    }

    /** Leaves in lastSaid what counts of each examiner, as known on a day. */
    private void gatherSayings(int mark, int card, int finger, int day) {
        for (int i = 0; i < EXAMINERS; i++) {
            lastSaid[i] = NONE;
        }
        Table all = now.sayings;
        for (int row = 0; row < all.rows; row++) {
            if (all.at(row, SAYING_MARK) != mark || all.at(row, SAYING_CARD) != card
                    || all.at(row, SAYING_FINGER) != finger || all.at(row, SAYING_DAY) > day) {
                continue;
            }
            int examiner = all.at(row, SAYING_EXAMINER);
            if (examiner >= 0 && examiner < EXAMINERS) {
                lastSaid[examiner] = all.at(row, SAYING_WHAT);
            }
        }
    }

    public boolean proved(int mark, int card, int finger, int day) throws IndexOutOfBoundsException {
        needMark(mark);
        needCard(card);
        needFinger(finger);
        return isProved(mark, card, finger, day);
    }

    private boolean isProved(int mark, int card, int finger, int day) {
        int print = now.printAt(card, finger);
        if (print == NONE) {
            return false;
        }
        gatherSayings(mark, card, finger, day);
        int same = 0;
        for (int i = 0; i < EXAMINERS; i++) {
            if (lastSaid[i] == NOT) {
                return false;
            }
            if (lastSaid[i] == SAME) {
                same++;
            }
        }
        RuleText text = now.textOn(day);
        return same >= text.lastNumber(RuleText.NEED, 1)
                && text.verdictBy(decidingRule(mark, print, day)) == RuleText.VERDICT_SAME;
    }

    // ---- persons

    public int alike(int a, int b, int day) throws IndexOutOfBoundsException {
        needCard(a);
        needCard(b);
        return alikeFingers(a < b ? a : b, a < b ? b : a, day);
    }

    private int alikeFingers(int lesser, int other, int day) {
        int count = 0;
        for (int finger = 0; finger < FINGERS; finger++) {
            if (arePrintsAlike(now.printAt(lesser, finger), now.printAt(other, finger), day)) {
                count++;
            }
        }
        return count;
    }

    private boolean arePrintsAlike(int upper, int lower, int day) {
        if (!now.isPrint(upper) || !now.isPrint(lower)) {
            return false;
        }
        Print laid = now.prints[upper];
        Print under = now.prints[lower];
        if (laid.itsClass != under.itsClass) {
            return false;
        }
        lays.find(lays.keyOfPrint(upper, lower), laid.sheet, under.sheet, now.slackNow);
        facts.ofLay(lays, laid.sheet.points, under.itsClass);
        RuleText text = now.textOn(day);
        return text.verdictBy(text.decidingRule(facts)) == RuleText.VERDICT_SAME;
    }

    public int person(int card, int day) throws IndexOutOfBoundsException {
        needCard(card);
        groupPersons(day);
        return leaders[card];
    }

    public int persons(int day, boolean names) {
        groupPersons(day);
        int count = 0;
        for (int card = 0; card < now.cardCount; card++) {
            if (leaders[card] == card && (!names || hasSecondName(card))) {
                count++;
            }
        }
        return count;
    }

    private boolean hasSecondName(int leader) {
        for (int card = 0; card < now.cardCount; card++) {
            if (leaders[card] == leader && now.cards[card].itsName != now.cards[leader].itsName) {
                return true;
            }
        }
        return false;
    }

    /** Leaves in leaders the least card of each card's person; NONE for a card that is left out. */
    private void groupPersons(int day) {
        for (int card = 0; card < now.cardCount; card++) {
            leaders[card] = now.cards[card].isThereOn(day) ? card : NONE;
        }
        int enough = now.textOn(day).lastNumber(RuleText.FINGERS_RULE, 3);
        for (int a = 0; a < now.cardCount; a++) {
            for (int b = a + 1; b < now.cardCount; b++) {
                // those that are of one person already need no costly look
                if (leaders[a] != NONE && leaders[b] != NONE && leaders[a] != leaders[b]
                        && alikeFingers(a, b, day) >= enough) {
                    joinPersons(leaders[a], leaders[b]);
                }
            }
        }
    }

    private void joinPersons(int one, int other) {
        int least = Math.min(one, other);
        int gone = Math.max(one, other);
        for (int card = 0; card < now.cardCount; card++) {
            if (leaders[card] == gone) {
                leaders[card] = least;
            }
        }
    }

    // ---- what is told of cards, and how long they are kept

    public boolean tell(int card, int what) throws IndexOutOfBoundsException, IllegalArgumentException {
        needCard(card);
        if (what < 0 || what >= TAGS_OF_A_CARD) {
            throw new IllegalArgumentException("nobody tells that");
        }
        Card its = now.cards[card];
        if (its.told[what] != NONE) {
            return false;
        }
        its.told[what] = now.today;
        return true;
    }

    public int kept(int card, int day) throws IndexOutOfBoundsException {
        needCard(card);
        facts.ofCard(now.cards[card], day);
        return now.textOn(day).keptBy(facts);
    }

    // ---- the desk and the days

    public void desk(int n) throws IllegalArgumentException {
        if (n < 0 || n > MOST_COMPARISONS) {
            throw new IllegalArgumentException("no such desk");
        }
        now.deskNow = n;
    }

    public int days(int n) throws IllegalArgumentException {
        if (n < 0 || n > MOST_DAYS) {
            throw new IllegalArgumentException("no such many days");
        }
        int last = Math.min(now.today + n, LAST_DAY);
        for (int day = now.today + 1; day <= last; day++) {
            now.today = day;
            workDesk(provedMarks());
            strikeCards();
        }
        return now.today;
    }

    /** The marks that are proved today upon a finger of a card in the file, a bit each. */
    private int provedMarks() {
        int found = 0;
        Table all = now.sayings;
        for (int row = 0; row < all.rows; row++) {
            // no mark is proved upon a finger of which nobody says same
            int mark = all.at(row, SAYING_MARK);
            int card = all.at(row, SAYING_CARD);
            if (all.at(row, SAYING_WHAT) == SAME && (found >> mark & 1) == 0 && now.isInFile(card)
                    && isProved(mark, card, all.at(row, SAYING_FINGER), now.today)) {
                found |= 1 << mark;
            }
        }
        return found;
    }

    private void workDesk(int provedMarks) {
        int left = now.deskNow;
        for (int round = 0; round < 2; round++) {
            for (int mark = 0; mark < now.markCount; mark++) {
                boolean isItsRound = now.marks[mark].isGrave == (round == 0);
                if (isItsRound && (provedMarks >> mark & 1) == 0) {
                    left -= compareMark(mark, left);
                }
            }
        }
    }

    /** Compares a mark with at most so many fingers; how many they were. */
    private int compareMark(int mark, int most) {
        RuleText text = now.textOn(now.today);
        int done = 0;
        for (int card = 0; card < now.cardCount; card++) {
            for (int finger = 0; finger < FINGERS && done < most; finger++) {
                if (!now.isLeft(mark, card, finger)) {
                    continue;
                }
                Card its = now.cards[card];
                its.compared[finger] |= 1 << mark;
                done++;
                int found = text.verdictBy(decidingRule(mark, its.prints[finger], now.today));
                if (found != 0) {
                    keepHit(mark, card, finger, found);
                }
            }
        }
        now.comparisons += done;
        return done;
    }

    private void keepHit(int mark, int card, int finger, int itsVerdict) {
        Table all = now.hits;
        int row = all.open();
        all.put(row, HIT_MARK, mark);
        all.put(row, HIT_CARD, card);
        all.put(row, HIT_FINGER, finger);
        all.put(row, HIT_VERDICT, itsVerdict);
        all.put(row, HIT_PAIRS, lays.pairs);
        all.put(row, HIT_DAY, now.today);
        all.put(row, HIT_TRUE_PAIRS, lays.pairs);
    }

    private void strikeCards() {
        RuleText text = now.textOn(now.today);
        for (int card = 0; card < now.cardCount; card++) {
            Card its = now.cards[card];
            if (its.struckOn != NONE) {
                continue;
            }
            facts.ofCard(its, now.today);
            boolean isTooOld = text.hasKind(RuleText.KEEP) && now.today - its.takenOn > text.keptBy(facts);
            if (isTooOld || text.firstHolding(RuleText.STRIKE, facts) != NONE) {
                its.struckOn = now.today;
            }
        }
    }

    public int look(int card, int what) throws IndexOutOfBoundsException, NoSuchElementException {
        needCard(card);
        if (what < 0 || what >= LOOK_WHATS) {
            throw new NoSuchElementException("no such what");
        }
        Card its = now.cards[card];
        switch (what) {
            case 0:
                return its.itsName;
            case 1:
                return its.takenOn;
            case 2:
                return its.struckOn;
            case 3:
                return its.withPrints();
            case 4:
                return its.doubtful();
            default:
                return now.hits.countOf(HIT_CARD, card);
        }
    }

    public int hit(int n, int what) throws NoSuchElementException {
        if (n < 0 || n >= now.hits.rows || what < 0 || what >= HIT_WHATS) {
            throw new NoSuchElementException("no such hit, or what");
        }
        return now.hits.at(n, what);
    }

    public int left(int mark) throws IndexOutOfBoundsException {
        needMark(mark);
        int count = 0;
        for (int card = 0; card < now.cardCount; card++) {
            for (int finger = 0; finger < FINGERS; finger++) {
                if (now.isLeft(mark, card, finger)) {
                    count++;
                }
            }
        }
        return count;
    }

    // ---- how rare a card is

    public long rare(int card, boolean below) throws IndexOutOfBoundsException {
        needCard(card);
        long over = 1;
        long under = 1;
        for (int finger = 0; finger < FINGERS; finger++) {
            int itsClass = now.shownClass(card, finger);
            if (itsClass == NONE) {
                continue;
            }
            over *= 1 + now.countClass(finger, itsClass);
            under *= 2 + now.countPrints(finger);
            long common = commonDivisor(over, under);
            if (common > 1) {
                over /= common;
                under /= common;
            }
        }
        return below ? under : over;
    }

    private static long commonDivisor(long a, long b) {
        long one = a;
        long other = b;
        for (int i = 0; i < 200 && other != 0; i++) {
            long rest = one % other;
            one = other;
            other = rest;
        }
        return one;
    }

    // ---- rows that prove themselves

    public int tear(int i, int mask) throws NoSuchElementException {
        if (i < 0 || i >= Math.min(ROWS, now.hits.rows)) {
            throw new NoSuchElementException("no such row");
        }
        int row = firstRow() + i;
        now.hits.put(row, HIT_PAIRS, now.hits.at(row, HIT_PAIRS) ^ mask);
        return now.hits.at(row, HIT_PAIRS);
    }

    public int check() {
        int first = firstRow();
        for (int row = first; row < now.hits.rows; row++) {
            if (now.hits.at(row, HIT_PAIRS) != now.hits.at(row, HIT_TRUE_PAIRS)) {
                return row - first;
            }
        }
        return NONE;
    }

    private int firstRow() {
        return Math.max(0, now.hits.rows - ROWS);
    }

    // ---- the image

    public void image() {
        imageState.copyFrom(now);
        hasImage = true;
    }

    public boolean back() {
        if (!hasImage) {
            return false;
        }
        now.copyFrom(imageState);
        lays.forget();
        return true;
    }

    public int count(int what) {
        switch (what) {
            case 0:
                return now.today;
            case 1:
                return now.printCount;
            case 2:
                return now.cardCount;
            case 3:
                return now.countInFile();
            case 4:
                return now.markCount;
            case 5:
                return now.textCount;
            case 6:
                return now.textOn(now.today).rules;
            case 7:
                return now.sayings.rows;
            case 8:
                return now.hits.rows;
            case 9:
                return now.comparisons;
            case 10:
                return now.slackNow;
            case 11:
                return now.deskNow;
            default:
                return NONE;
        }
    }

    // ---- what calls are refused for

    private void needPrint(int print) {
        if (!now.isPrint(print)) {
            throw new IndexOutOfBoundsException("no such print");
        }
    }

    private void needMark(int mark) {
        if (!now.isMark(mark)) {
            throw new IndexOutOfBoundsException("no such mark");
        }
    }

    private void needCard(int card) {
        if (!now.isCard(card)) {
            throw new IndexOutOfBoundsException("no such card");
        }
    }

    private static void needFinger(int finger) {
        if (!State.isFinger(finger)) {
            throw new IndexOutOfBoundsException("no such finger");
        }
    }

    private void needSaying(int examiner, int mark, int card, int finger) {
        if (examiner < 0 || examiner >= EXAMINERS) {
            throw new IndexOutOfBoundsException("no such examiner");
        }
        needMark(mark);
        needCard(card);
        needFinger(finger);
    }

    private static void needPoint(int x, int y, int kind, int heading) {
        if (!isSpan(x, x) || !isSpan(y, y) || kind < 0 || kind >= KINDS || heading < 0 || heading >= HEADINGS) {
            throw new IllegalArgumentException("no such point");
        }
    }

    private static boolean isSpan(int from, int to) {
        return from >= 0 && from <= to && to <= LAST_PLACE;
    }

    /** The bytes of a text; for a text of rules also its tokens: words, numbers and signs. */
    private static final class Tape {
        /** A word's token is how many words stand ahead of it here; RuleText has names for them. */
        private static final String WORDS =
                "same doubt need fingers keep strike if and or not grave child cleared guilty pairs against points class age ";
        static final int NUMBER = 20;
        static final int END = 21;
        private static final int NO_WORD = 22;
        private static final int SIGNS = 100;
        static final int SEMICOLON = SIGNS + ';';
        static final int OPENING = SIGNS + '(';
        static final int CLOSING = SIGNS + ')';
        static final int BELOW = SIGNS + '<';
        static final int ABOVE = SIGNS + '>';

        final int[] bytes = new int[MOST_BYTES];
        int length;
        int fault = NONE;
        private final int[] tokens = new int[MOST_BYTES];
        private final int[] starts = new int[MOST_BYTES];
        private final int[] values = new int[MOST_BYTES];
        private int tokenCount;
        private int place;

        boolean hasRoom() {
            return length + 20 <= bytes.length;
        }

        void append(int number) {
            for (int shift = 24; shift >= 0 && length < bytes.length; shift -= 8) {
                bytes[length] = number >> shift & 255;
                length++;
            }
        }

        /** False always, as fail() is, so that a reader can return it. */
        boolean failAt(int first) {
            fault = first;
            return false;
        }

        /** Tells the token that comes next, or the text's length, as the fault. */
        boolean fail() {
            fault = place < tokenCount ? starts[place] : length;
            return false;
        }

        /** Makes tokens of the bytes, and begins ahead of the first. */
        void scan() {
            fault = NONE;
            tokenCount = 0;
            place = 0;
            int at = 0;
            while (at < length) {
                int end = at + 1;
                while (end < length && goesOn(bytes[at], bytes[end])) {
                    end++;
                }
                if (bytes[at] != ' ') {
                    addToken(at, end);
                }
                at = end;
            }
        }

        private static boolean goesOn(int sign, int next) {
            return isLetter(sign) && isLetter(next) || isDigit(sign) && isDigit(next);
        }

        private static boolean isLetter(int sign) {
            return sign >= 'a' && sign <= 'z';
        }

        private static boolean isDigit(int sign) {
            return sign >= '0' && sign <= '9';
        }

        private void addToken(int start, int end) {
            if (tokenCount >= tokens.length) {
                return;
            }
            int token = SIGNS + bytes[start];
            if (isLetter(bytes[start])) {
                token = wordToken(start, end);
            } else if (isDigit(bytes[start])) {
                token = NUMBER;
            }
            tokens[tokenCount] = token;
            starts[tokenCount] = start;
            values[tokenCount] = token == NUMBER ? valueOf(start, end) : NONE;
            tokenCount++;
        }

        private int wordToken(int start, int end) {
            int word = 0;
            int from = 0;
            for (int to = 0; to < WORDS.length(); to++) {
                if (WORDS.charAt(to) != ' ') {
                    continue;
                }
                if (to - from == end - start && isWordAt(start, from, to - from)) {
                    return word;
                }
                word++;
                from = to + 1;
            }
            return NO_WORD;
        }

        private boolean isWordAt(int start, int from, int size) {
            for (int i = 0; i < size; i++) {
                if (bytes[start + i] != WORDS.charAt(from + i)) {
                    return false;
                }
            }
            return true;
        }

        /** A number's value; NONE if it has too many digits. */
        private int valueOf(int start, int end) {
            if (end - start > MOST_DIGITS) {
                return NONE;
            }
            int value = 0;
            for (int i = start; i < end; i++) {
                value = 10 * value + bytes[i] - '0';
            }
            return value;
        }

        int token() {
            return place < tokenCount ? tokens[place] : END;
        }

        boolean take(int token) {
            if (token() != token) {
                return false;
            }
            place++;
            return true;
        }

        /** A number within its bounds; NONE, and the fault is told, if none stands here. */
        int takeNumber(int least, int most) {
            if (token() != NUMBER || values[place] < least || values[place] > most) {
                fail();
                return NONE;
            }
            place++;
            return values[place - 1];
        }
    }

    /** Rows of numbers, so many at most. */
    private static final class Table {
        private final int most;
        private final int width;
        private final int[] numbers;
        int rows;

        Table(int most, int width) {
            this.most = most > 0 ? most : 0;
            this.width = width > 0 ? width : 0;
            numbers = new int[this.most * this.width];
        }

        boolean isFull() {
            return rows >= most;
        }

        /** A new row's number; NONE if there is no room. */
        int open() {
            if (isFull()) {
                return NONE;
            }
            rows++;
            return rows - 1;
        }

        private boolean hasCell(int row, int column) {
            return row >= 0 && row < rows && column >= 0 && column < width;
        }

        int at(int row, int column) {
            return hasCell(row, column) ? numbers[row * width + column] : NONE;
        }

        void put(int row, int column, int value) {
            if (hasCell(row, column)) {
                numbers[row * width + column] = value;
            }
        }

        int countOf(int column, int value) {
            int found = 0;
            for (int row = 0; row < rows; row++) {
                if (at(row, column) == value) {
                    found++;
                }
            }
            return found;
        }

        void copyFrom(Table other) {
            rows = Math.min(other.rows, most);
            copy(other.numbers, numbers);
        }
    }

    private static void copy(int[] from, int[] to) {
        System.arraycopy(from, 0, to, 0, Math.min(from.length, to.length));
    }

    /** Points, and the rectangle that is clear: what is laid, and what it is laid on. */
    private static final class Sheet {
        final int[] x = new int[MOST_POINTS];
        final int[] y = new int[MOST_POINTS];
        final int[] kinds = new int[MOST_POINTS];
        final int[] headings = new int[MOST_POINTS];
        int points;
        int fromX;
        int fromY;
        int toX = LAST_PLACE;
        int toY = LAST_PLACE;

        void begin(int x0, int y0, int x1, int y1) {
            points = 0;
            fromX = x0;
            fromY = y0;
            toX = x1;
            toY = y1;
        }

        int add(int itsX, int itsY, int itsKind, int itsHeading) {
            if (points >= MOST_POINTS) {
                return NONE;
            }
            x[points] = itsX;
            y[points] = itsY;
            kinds[points] = itsKind;
            headings[points] = itsHeading;
            points++;
            return points - 1;
        }

        boolean isClear(int itsX, int itsY) {
            return itsX >= fromX && itsX <= toX && itsY >= fromY && itsY <= toY;
        }

        void turnFrom(Sheet other, int quarters) {
            int oneX = turnedX(other.fromX, other.fromY, quarters);
            int oneY = turnedY(other.fromX, other.fromY, quarters);
            int otherX = turnedX(other.toX, other.toY, quarters);
            int otherY = turnedY(other.toX, other.toY, quarters);
            begin(Math.min(oneX, otherX), Math.min(oneY, otherY), Math.max(oneX, otherX), Math.max(oneY, otherY));
            for (int i = 0; i < other.points; i++) {
                add(turnedX(other.x[i], other.y[i], quarters), turnedY(other.x[i], other.y[i], quarters),
                        other.kinds[i], other.headings[i] + 4 * quarters & HEADINGS - 1);
            }
        }

        private static int turnedX(int itsX, int itsY, int quarters) {
            switch (quarters) {
                case 0:
                    return itsX;
                case 1:
                    return LAST_PLACE - itsY;
                case 2:
                    return LAST_PLACE - itsX;
                default:
                    return itsY;
            }
        }

        private static int turnedY(int itsX, int itsY, int quarters) {
            switch (quarters) {
                case 0:
                    return itsY;
                case 1:
                    return itsX;
                case 2:
                    return LAST_PLACE - itsY;
                default:
                    return LAST_PLACE - itsX;
            }
        }

        void copyFrom(Sheet other) {
            begin(other.fromX, other.fromY, other.toX, other.toY);
            points = other.points;
            copy(other.x, x);
            copy(other.y, y);
            copy(other.kinds, kinds);
            copy(other.headings, headings);
        }
    }

    /** A field of directions, and what is found in it. */
    private static final class Print {
        private static final int WRONG = -2;
        private static final int[] RIDGES_ALONG_X = {0, 1, 2, 3, 3, 3, 2, 1};
        private static final int[] RIDGES_ALONG_Y = {3, 3, 2, 1, 0, 1, 2, 3};

        final int[] cells = new int[CELLS];
        final Sheet sheet = new Sheet();
        int itsPattern;
        int itsRidges;
        int itsClass;

        /** Whether the tape's text is a field; else its fault is told. */
        boolean readField(Tape tape) {
            tape.fault = NONE;
            int row = 0;
            int column = 0;
            for (int place = 0; place < tape.length; place++) {
                int sign = tape.bytes[place];
                if (sign == ' ') {
                    continue;
                }
                if (sign == '/') {
                    if (column < SIDE || row == SIDE - 1) {
                        return tape.failAt(place);
                    }
                    row++;
                    column = 0;
                    continue;
                }
                int direction = directionBy(sign);
                if (direction == WRONG || column >= SIDE) {
                    return tape.failAt(place);
                }
                cells[SIDE * row + column] = direction;
                column++;
            }
            return row == SIDE - 1 && column == SIDE || tape.failAt(tape.length);
        }

        private static int directionBy(int sign) {
            if (sign == '.') {
                return NONE;
            }
            return sign >= '0' && sign <= '7' ? sign - '0' : WRONG;
        }

        /** Finds pattern, ridges and class once, as they are asked for again and again. */
        void settle() {
            itsPattern = findPattern();
            itsRidges = itsPattern >= TENT && itsPattern <= WHORL ? countRidges() : 0;
            itsClass = findClass();
        }

        /** The turn of a corner; NONE if there is none. */
        int turnAround(int corner) {
            int x = corner % CORNERS_A_LINE + 1;
            int y = corner / CORNERS_A_LINE + 1;
            int first = direction(x - 1, y - 1);
            int second = direction(x, y - 1);
            int third = direction(x, y);
            int fourth = direction(x - 1, y);
            if (first == NONE || second == NONE || third == NONE || fourth == NONE) {
                return NONE;
            }
            int a = step(first, second);
            int b = step(second, third);
            int c = step(third, fourth);
            int d = step(fourth, first);
            if (a == UNSURE_STEP || b == UNSURE_STEP || c == UNSURE_STEP || d == UNSURE_STEP) {
                return NONE;
            }
            return a + b + c + d;
        }

        private static int step(int from, int to) {
            int more = to - from & SIDE - 1;
            return more > UNSURE_STEP ? more - SIDE : more;
        }

        private int direction(int x, int y) {
            return x >= 0 && x < SIDE && y >= 0 && y < SIDE ? cells[SIDE * y + x] : NONE;
        }

        /** The corner of the nth core or delta; NONE if there is none such. */
        int cornerOf(int n, int turn) {
            int found = 0;
            for (int corner = 0; corner < CORNERS; corner++) {
                if (turnAround(corner) != turn) {
                    continue;
                }
                if (found == n) {
                    return corner;
                }
                found++;
            }
            return NONE;
        }

        private int findPattern() {
            int cores = 0;
            int deltas = 0;
            for (int corner = 0; corner < CORNERS; corner++) {
                int turn = turnAround(corner);
                cores += turn == CORE ? 1 : 0;
                deltas += turn == DELTA ? 1 : 0;
            }
            if (cores == 0 && deltas == 0) {
                return ARCH;
            }
            if (cores == 2 && deltas == 2) {
                return WHORL;
            }
            if (cores != 1 || deltas != 1) {
                return ODD;
            }
            int coreX = cornerOf(0, CORE) % CORNERS_A_LINE;
            int deltaX = cornerOf(0, DELTA) % CORNERS_A_LINE;
            if (coreX == deltaX) {
                return TENT;
            }
            return deltaX > coreX ? LEFT : RIGHT;
        }

        private int countRidges() {
            int core = cornerOf(0, CORE);
            int delta = cornerOf(0, DELTA);
            int coreX = core % CORNERS_A_LINE + 1;
            int coreY = core / CORNERS_A_LINE + 1;
            int deltaX = delta % CORNERS_A_LINE + 1;
            int deltaY = delta / CORNERS_A_LINE + 1;
            int crossed = 0;
            for (int x = Math.min(coreX, deltaX); x < Math.max(coreX, deltaX); x++) {
                crossed += ridgesBy(direction(x, coreY), RIDGES_ALONG_X);
            }
            for (int y = Math.min(coreY, deltaY); y < Math.max(coreY, deltaY); y++) {
                crossed += ridgesBy(direction(deltaX, y), RIDGES_ALONG_Y);
            }
            return crossed;
        }

        private static int ridgesBy(int direction, int[] ridges) {
            return direction >= 0 && direction < ridges.length ? ridges[direction] : 0;
        }

        private int findClass() {
            int more = itsRidges > FEW_RIDGES ? 1 : 0;
            switch (itsPattern) {
                case LEFT:
                    return 2 + more;
                case RIGHT:
                    return 4 + more;
                case WHORL:
                    return 6;
                case ODD:
                    return LAST_CLASS;
                default:
                    return itsPattern;
            }
        }

        void copyFrom(Print other) {
            copy(other.cells, cells);
            sheet.copyFrom(other.sheet);
            itsPattern = other.itsPattern;
            itsRidges = other.itsRidges;
            itsClass = other.itsClass;
        }
    }

    /** A mark from a scene. */
    private static final class Mark {
        final Sheet sheet = new Sheet();
        boolean isGrave;
        int cameOn;

        void copyFrom(Mark other) {
            sheet.copyFrom(other.sheet);
            isGrave = other.isGrave;
            cameOn = other.cameOn;
        }
    }

    /** Finds the best lay of one sheet on another. */
    private static final class Lays {
        private static final int KEYS = (MOST_MARKS + MOST_PRINTS) * MOST_PRINTS;
        private static final int KEPT_WIDTH = 6;

        int pairs;
        int against;
        int quarters;
        int shiftX;
        int shiftY;
        private boolean isFound;
        private final Sheet turned = new Sheet();
        private final int[] mates = new int[MOST_POINTS];
        private final int[] holders = new int[MOST_POINTS];
        private int seen;
        // best lays are asked for again and again, by the desk and by persons, and cost much
        private final int[] kept = new int[KEYS * KEPT_WIDTH];
        private int version = 1;

        int keyOfMark(int mark, int print) {
            return mark * MOST_PRINTS + print;
        }

        int keyOfPrint(int upper, int lower) {
            return (MOST_MARKS + upper) * MOST_PRINTS + lower;
        }

        /** Must be called whenever points or the slack are other ones. */
        void forget() {
            version++;
        }

        void find(int key, Sheet upper, Sheet lower, int slack) {
            int base = key * KEPT_WIDTH;
            boolean canKeep = base >= 0 && base + KEPT_WIDTH <= kept.length;
            if (canKeep && kept[base] == version) {
                recall(base);
                return;
            }
            isFound = false;
            take(0, 0, 0, 0, 0);
            for (int turn = 0; turn < TURNS; turn++) {
                turned.turnFrom(upper, turn);
                for (int i = 0; i < turned.points; i++) {
                    for (int j = 0; j < lower.points; j++) {
                        tryLay(lower, slack, turn, lower.x[j] - turned.x[i], lower.y[j] - turned.y[i]);
                    }
                }
            }
            if (canKeep) {
                keep(base);
            }
        }

        private void recall(int base) {
            take(kept[base + 1], kept[base + 2], kept[base + 3], kept[base + 4], kept[base + 5]);
        }

        private void keep(int base) {
            kept[base] = version;
            kept[base + 1] = pairs;
            kept[base + 2] = against;
            kept[base + 3] = quarters;
            kept[base + 4] = shiftX;
            kept[base + 5] = shiftY;
        }

        private void take(int itsPairs, int itsAgainst, int turn, int byX, int byY) {
            pairs = itsPairs;
            against = itsAgainst;
            quarters = turn;
            shiftX = byX;
            shiftY = byY;
        }

        private void tryLay(Sheet lower, int slack, int turn, int byX, int byY) {
            int mayPair = linkMates(lower, slack, byX, byY);
            if (isFound && mayPair < pairs) {
                return;
            }
            for (int j = 0; j < MOST_POINTS; j++) {
                holders[j] = NONE;
            }
            int itsPairs = 0;
            for (int i = 0; i < turned.points; i++) {
                seen = 0;
                if (pair(i, 0)) {
                    itsPairs++;
                }
            }
            int itsAgainst = countAgainst(lower, byX, byY);
            if (!isFound || isBetter(itsPairs, itsAgainst, turn, byX, byY)) {
                take(itsPairs, itsAgainst, turn, byX, byY);
                isFound = true;
            }
        }

        /** Leaves in mates, a bit each, with which points a point may pair; how many may pair with any. */
        private int linkMates(Sheet lower, int slack, int byX, int byY) {
            int linked = 0;
            for (int i = 0; i < turned.points; i++) {
                int bits = 0;
                for (int j = 0; j < lower.points; j++) {
                    boolean isNear = Math.abs(turned.x[i] + byX - lower.x[j]) <= slack
                            && Math.abs(turned.y[i] + byY - lower.y[j]) <= slack;
                    boolean isKind = turned.kinds[i] == lower.kinds[j] || turned.kinds[i] == UNSURE_KIND
                            || lower.kinds[j] == UNSURE_KIND;
                    int apart = turned.headings[i] - lower.headings[j] & HEADINGS - 1;
                    if (isNear && isKind && (apart <= 1 || apart == HEADINGS - 1)) {
                        bits |= 1 << j;
                    }
                }
                mates[i] = bits;
                linked += bits == 0 ? 0 : 1;
            }
            return linked;
        }

        /** Whether point i comes to a mate, others giving way to further mates of theirs. */
        private boolean pair(int i, int depth) {
            if (i < 0 || i >= MOST_POINTS || depth > MOST_POINTS) {
                return false;
            }
            for (int j = 0; j < MOST_POINTS; j++) {
                int bit = 1 << j;
                if ((mates[i] & bit) == 0 || (seen & bit) != 0) {
                    continue;
                }
                seen |= bit;
                if (holders[j] == NONE || pair(holders[j], depth + 1)) {
                    holders[j] = i;
                    return true;
                }
            }
            return false;
        }

        private int countAgainst(Sheet lower, int byX, int byY) {
            int found = 0;
            int paired = 0;
            for (int i = 0; i < turned.points; i++) {
                paired |= mates[i];
                if (mates[i] == 0 && lower.isClear(turned.x[i] + byX, turned.y[i] + byY)) {
                    found++;
                }
            }
            for (int j = 0; j < lower.points; j++) {
                if ((paired >> j & 1) == 0 && turned.isClear(lower.x[j] - byX, lower.y[j] - byY)) {
                    found++;
                }
            }
            return found;
        }

        private boolean isBetter(int itsPairs, int itsAgainst, int turn, int byX, int byY) {
            if (itsPairs != pairs) {
                return itsPairs > pairs;
            }
            if (itsAgainst != against) {
                return itsAgainst < against;
            }
            if (turn != quarters) {
                return turn < quarters;
            }
            return byX != shiftX ? byX < shiftX : byY < shiftY;
        }
    }

    /** A card of ten fingers. */
    private static final class Card {
        int itsName;
        int takenOn;
        int struckOn;
        final int[] prints = new int[FINGERS];
        final int[] seconds = new int[FINGERS];
        /** Of each finger the marks that it was compared with, a bit each. */
        final int[] compared = new int[FINGERS];
        final int[] told = new int[TAGS_OF_A_CARD];

        void begin(int name, int day) {
            itsName = name;
            takenOn = day;
            struckOn = NONE;
            for (int finger = 0; finger < FINGERS; finger++) {
                prints[finger] = NONE;
                seconds[finger] = NONE;
                compared[finger] = 0;
            }
            for (int what = 0; what < TAGS_OF_A_CARD; what++) {
                told[what] = NONE;
            }
        }

        int doubtful() {
            int found = 0;
            for (int finger = 0; finger < FINGERS; finger++) {
                found += seconds[finger] == NONE ? 0 : 1;
            }
            return found;
        }

        int withPrints() {
            int found = 0;
            for (int finger = 0; finger < FINGERS; finger++) {
                found += prints[finger] == NONE ? 0 : 1;
            }
            return found;
        }

        /** The fingers of which a second class makes another reading, a bit each. */
        int choices() {
            int bits = 0;
            for (int finger = 0; finger < FINGERS; finger++) {
                if (prints[finger] != NONE && seconds[finger] != NONE) {
                    bits |= 1 << finger;
                }
            }
            return bits;
        }

        boolean isThereOn(int day) {
            return takenOn <= day && (struckOn == NONE || struckOn > day);
        }

        boolean wasToldOn(int what, int day) {
            return told[what] != NONE && told[what] <= day;
        }

        void copyFrom(Card other) {
            itsName = other.itsName;
            takenOn = other.takenOn;
            struckOn = other.struckOn;
            copy(other.prints, prints);
            copy(other.seconds, seconds);
            copy(other.compared, compared);
            copy(other.told, told);
        }
    }

    /** What conditions of rules look at. */
    private static final class Facts {
        static final int PAIRS = 0;
        static final int AGAINST = 1;
        static final int POINTS = 2;
        static final int CLASS = 3;
        static final int AGE = 4;
        static final int GRAVE = 0;
        static final int CHILD = 1;
        static final int HAS_TAG = 0;
        static final int LESS = 1;
        static final int MORE = 2;

        // a long, as an age on the least day of all is more than an int holds
        private final long[] values = new long[AGE + 1];
        private int tags;

        /** A lay of so many points on a print of a class: of age 0, without tags. */
        void ofLay(Lays lays, int points, int itsClass) {
            values[PAIRS] = lays.pairs;
            values[AGAINST] = lays.against;
            values[POINTS] = points;
            values[CLASS] = itsClass;
            values[AGE] = 0;
            tags = 0;
        }

        void ofCard(Card card, int day) {
            for (int i = 0; i < values.length; i++) {
                values[i] = 0;
            }
            values[AGE] = (long) day - card.takenOn;
            tags = 0;
            for (int what = 0; what < TAGS_OF_A_CARD; what++) {
                setTag(CHILD + what, card.wasToldOn(what, day));
            }
        }

        void setAge(long age) {
            values[AGE] = age;
        }

        void setTag(int tag, boolean isSo) {
            tags = isSo ? tags | 1 << tag : tags & ~(1 << tag);
        }

        boolean isTrue(int question, int subject, int number) {
            if (question == HAS_TAG) {
                return (tags >> subject & 1) == 1;
            }
            long value = subject >= 0 && subject < values.length ? values[subject] : 0;
            return question == LESS ? value < number : value > number;
        }
    }

    /** A text of rules, its conditions held as words of a stack machine. */
    private static final class RuleText {
        // the words of rules, as Tape has them
        static final int SAME_RULE = 0;
        static final int DOUBT_RULE = 1;
        static final int NEED = 2;
        static final int FINGERS_RULE = 3;
        static final int KEEP = 4;
        static final int STRIKE = 5;
        private static final int IF = 6;
        private static final int AND = 7;
        private static final int OR = 8;
        private static final int NOT_WORD = 9;
        private static final int FIRST_TAG = 10;
        private static final int FIRST_FACT = 14;
        private static final int LAST_FACT = 18;

        static final int VERDICT_SAME = 2;
        static final int VERDICT_DOUBT = 1;

        // operations beside the questions of Facts
        private static final int TURN_TOP = 3;
        private static final int JOIN_ALL = 4;
        private static final int JOIN_ANY = 5;

        int from;
        int rules;
        private int used;
        private final int[] kinds = new int[MOST_RULES];
        private final int[] numbers = new int[MOST_RULES];
        private final int[] starts = new int[MOST_RULES];
        private final int[] ends = new int[MOST_RULES];
        private final int[] code = new int[MOST_BYTES];

        /** Whether the tape's text is one of rules; else its fault is told. */
        boolean readRules(Tape tape) {
            rules = 0;
            used = 0;
            tape.scan();
            if (tape.token() == Tape.END) {
                return true;
            }
            for (int n = 0; n < MOST_RULES; n++) {
                if (!readRule(tape)) {
                    return false;
                }
                if (tape.token() == Tape.END) {
                    return true;
                }
                if (!tape.take(Tape.SEMICOLON)) {
                    return tape.fail();
                }
            }
            return tape.fail();
        }

        private boolean readRule(Tape tape) {
            int kind = tape.token();
            if (kind < SAME_RULE || kind > STRIKE || rules >= MOST_RULES || !tape.take(kind)) {
                return tape.fail();
            }
            int number = takeNumberOf(kind, tape);
            if (number == NONE) {
                return false;
            }
            int start = used;
            boolean mustHaveIf = kind == SAME_RULE || kind == DOUBT_RULE || kind == STRIKE;
            if ((mustHaveIf || kind == KEEP) && tape.take(IF)) {
                if (!readAny(tape, 0)) {
                    return false;
                }
            } else if (mustHaveIf) {
                return tape.fail();
            }
            kinds[rules] = kind;
            numbers[rules] = number;
            starts[rules] = start;
            ends[rules] = used;
            rules++;
            return true;
        }

        private static int takeNumberOf(int kind, Tape tape) {
            switch (kind) {
                case NEED:
                    return tape.takeNumber(1, EXAMINERS);
                case FINGERS_RULE:
                    return tape.takeNumber(1, FINGERS);
                case KEEP:
                    return tape.takeNumber(0, GREATEST_NUMBER);
                default:
                    return 0;
            }
        }

        private boolean readAny(Tape tape, int depth) {
            for (int n = 0; n < MOST_BYTES; n++) {
                if (!readAll(tape, depth) || n > 0 && !emit(JOIN_ANY, 0, 0)) {
                    return false;
                }
                if (!tape.take(OR)) {
                    return true;
                }
            }
            return tape.fail();
        }

        private boolean readAll(Tape tape, int depth) {
            for (int n = 0; n < MOST_BYTES; n++) {
                if (!readAtom(tape, depth) || n > 0 && !emit(JOIN_ALL, 0, 0)) {
                    return false;
                }
                if (!tape.take(AND)) {
                    return true;
                }
            }
            return tape.fail();
        }

        private boolean readAtom(Tape tape, int depth) {
            int token = tape.token();
            if (token == NOT_WORD || token == Tape.OPENING) {
                return depth < MOST_DEEP ? readDeeper(tape, depth + 1) : tape.fail();
            }
            if (token < FIRST_TAG || token > LAST_FACT || !tape.take(token)) {
                return tape.fail();
            }
            if (token < FIRST_FACT) {
                return emit(Facts.HAS_TAG, token - FIRST_TAG, 0);
            }
            boolean isLess = tape.take(Tape.BELOW);
            if (!isLess && !tape.take(Tape.ABOVE)) {
                return tape.fail();
            }
            int number = tape.takeNumber(0, GREATEST_NUMBER);
            return number != NONE && emit(isLess ? Facts.LESS : Facts.MORE, token - FIRST_FACT, number);
        }

        private boolean readDeeper(Tape tape, int depth) {
            if (tape.take(NOT_WORD)) {
                return readAtom(tape, depth) && emit(TURN_TOP, 0, 0);
            }
            return tape.take(Tape.OPENING) && readAny(tape, depth) && (tape.take(Tape.CLOSING) || tape.fail());
        }

        private boolean emit(int operation, int subject, int number) {
            if (used >= code.length) {
                return false;
            }
            code[used] = operation | subject << 3 | number << 6;
            used++;
            return true;
        }

        /** Whether a rule's condition holds; one without a condition does. */
        private boolean holds(int rule, Facts facts) {
            // the stack is a number of bits: at most 6 deep, it never has more than 15 of them
            int stack = 1;
            for (int i = starts[rule]; i < ends[rule] && i < code.length; i++) {
                int word = code[i];
                int top = stack & 1;
                switch (word & 7) {
                    case TURN_TOP:
                        stack ^= 1;
                        break;
                    case JOIN_ALL:
                        stack = stack >> 1 & (top | ~1);
                        break;
                    case JOIN_ANY:
                        stack = stack >> 1 | top;
                        break;
                    default:
                        stack = stack << 1 | (facts.isTrue(word & 7, word >> 3 & 7, word >> 6) ? 1 : 0);
                        break;
                }
            }
            return (stack & 1) == 1;
        }

        /** The first rule of a kind that holds; NONE without one. */
        int firstHolding(int kind, Facts facts) {
            for (int rule = 0; rule < rules; rule++) {
                if (kinds[rule] == kind && holds(rule, facts)) {
                    return rule;
                }
            }
            return NONE;
        }

        int decidingRule(Facts facts) {
            int same = firstHolding(SAME_RULE, facts);
            return same != NONE ? same : firstHolding(DOUBT_RULE, facts);
        }

        int verdictBy(int rule) {
            if (rule < 0 || rule >= rules) {
                return 0;
            }
            return kinds[rule] == SAME_RULE ? VERDICT_SAME : VERDICT_DOUBT;
        }

        int lastNumber(int kind, int without) {
            for (int rule = rules - 1; rule >= 0; rule--) {
                if (kinds[rule] == kind) {
                    return numbers[rule];
                }
            }
            return without;
        }

        boolean hasKind(int kind) {
            return lastNumber(kind, NONE) != NONE;
        }

        int keptBy(Facts facts) {
            int greatest = 0;
            for (int rule = 0; rule < rules; rule++) {
                if (kinds[rule] == KEEP && numbers[rule] > greatest && holds(rule, facts)) {
                    greatest = numbers[rule];
                }
            }
            return greatest;
        }

        void copyFrom(RuleText other) {
            from = other.from;
            rules = other.rules;
            used = other.used;
            copy(other.kinds, kinds);
            copy(other.numbers, numbers);
            copy(other.starts, starts);
            copy(other.ends, ends);
            copy(other.code, code);
        }
    }

    /** All that the image keeps. */
    private static final class State {
        int today;
        int slackNow = 1;
        int deskNow = 10;
        int comparisons;
        int printCount;
        int markCount;
        int cardCount;
        int textCount;
        final Print[] prints = new Print[MOST_PRINTS];
        final Mark[] marks = new Mark[MOST_MARKS];
        final Card[] cards = new Card[MOST_CARDS];
        final RuleText[] texts = new RuleText[MOST_TEXTS];
        final RuleText noText = new RuleText();
        final Table sayings = new Table(MOST_SAYINGS, SAYING_WIDTH);
        final Table hits = new Table(MOST_HITS, HIT_WIDTH);

        State() {
            for (int i = 0; i < MOST_PRINTS; i++) {
                prints[i] = new Print();
            }
            for (int i = 0; i < MOST_MARKS; i++) {
                marks[i] = new Mark();
            }
            for (int i = 0; i < MOST_CARDS; i++) {
                cards[i] = new Card();
            }
            for (int i = 0; i < MOST_TEXTS; i++) {
                texts[i] = new RuleText();
            }
        }

        RuleText textOn(int day) {
            int found = NONE;
            for (int i = 0; i < textCount; i++) {
                if (texts[i].from <= day && (found == NONE || texts[i].from >= texts[found].from)) {
                    found = i;
                }
            }
            return found == NONE ? noText : texts[found];
        }

        boolean isPrint(int print) {
            return print >= 0 && print < printCount;
        }

        boolean isMark(int mark) {
            return mark >= 0 && mark < markCount;
        }

        boolean isCard(int card) {
            return card >= 0 && card < cardCount;
        }

        static boolean isFinger(int finger) {
            return finger >= 0 && finger < FINGERS;
        }

        boolean isInFile(int card) {
            return isCard(card) && cards[card].struckOn == NONE;
        }

        /** The print of a finger of a card; NONE if it is missing. */
        int printAt(int card, int finger) {
            return isCard(card) && isFinger(finger) ? cards[card].prints[finger] : NONE;
        }

        /** The class of the print of a finger of a card; NONE if it is missing. */
        int shownClass(int card, int finger) {
            int print = printAt(card, finger);
            return isPrint(print) ? prints[print].itsClass : NONE;
        }

        int countInFile() {
            int found = 0;
            for (int card = 0; card < cardCount; card++) {
                found += isInFile(card) ? 1 : 0;
            }
            return found;
        }

        /** How many cards in the file have a print at a finger. */
        int countPrints(int finger) {
            int found = 0;
            for (int card = 0; card < cardCount; card++) {
                found += isInFile(card) && printAt(card, finger) != NONE ? 1 : 0;
            }
            return found;
        }

        /** How many cards in the file have a print of a class at a finger. */
        int countClass(int finger, int itsClass) {
            int found = 0;
            for (int card = 0; card < cardCount; card++) {
                found += isInFile(card) && shownClass(card, finger) == itsClass ? 1 : 0;
            }
            return found;
        }

        boolean isLeft(int mark, int card, int finger) {
            return isInFile(card) && printAt(card, finger) != NONE && (cards[card].compared[finger] >> mark & 1) == 0;
        }

        /** A finger's class in the reading by the second classes of some fingers, a bit each. */
        int classOf(int card, int finger, int bySecond) {
            int shown = printAt(card, finger) != NONE ? finger : (finger + HAND) % FINGERS;
            int itsClass = shownClass(card, shown);
            if (itsClass == NONE) {
                return LAST_CLASS;
            }
            return (bySecond >> shown & 1) == 1 ? cards[card].seconds[shown] : itsClass;
        }

        /** The number of a reading, upper and lower together. */
        int readingOf(int card, int bySecond) {
            int whole = 0;
            for (int finger = 0; finger < FINGERS; finger++) {
                whole = whole << CLASS_BITS | classOf(card, finger, bySecond);
            }
            return whole;
        }

        /** Fills in the numbers of a card's readings; how many they are. */
        int fillReadings(int card, int[] into) {
            int choices = cards[card].choices();
            int bits = 0;
            for (int filled = 0; filled < into.length; filled++) {
                into[filled] = readingOf(card, bits);
                // the next of all sets of choices; behind the last one the empty set comes again
                bits = bits - choices & choices;
                if (bits == 0) {
                    return filled + 1;
                }
            }
            return into.length;
        }

        void copyFrom(State other) {
            today = other.today;
            slackNow = other.slackNow;
            deskNow = other.deskNow;
            comparisons = other.comparisons;
            printCount = other.printCount;
            markCount = other.markCount;
            cardCount = other.cardCount;
            textCount = other.textCount;
            for (int i = 0; i < printCount; i++) {
                prints[i].copyFrom(other.prints[i]);
            }
            for (int i = 0; i < markCount; i++) {
                marks[i].copyFrom(other.marks[i]);
            }
            for (int i = 0; i < cardCount; i++) {
                cards[i].copyFrom(other.cards[i]);
            }
            for (int i = 0; i < textCount; i++) {
                texts[i].copyFrom(other.texts[i]);
            }
            sayings.copyFrom(other.sayings);
            hits.copyFrom(other.hits);
        }
    }
}
