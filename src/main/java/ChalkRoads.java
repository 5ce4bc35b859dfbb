/**
 * A rock on which a way is only where there is a line of chalk. ../shared/DOC.md tells
 * what each method promises; the words in capitals in the comments are that document's.
 *
 * All rows are made in the constructors: no call makes an object.
 */
public final class ChalkRoads {
    public static final int BAD = -1, STATE = -2, FULL = -3, NONE = -4;

    private static final int FEWEST_POINTS = 2, FIRST_POINTS = 5, MOST_POINTS = 9;
    private static final int MOST_LINES = 12, MOST_DRAWERS = 5, MOST_PEOPLE = 5;
    private static final int MOST_YARDS = 9, MOST_STRENGTH = 9, MOST_CHALK = 50, LAST_START = 40;
    private static final int NO_QUARTER = 0, FIRST_RAIN = 1, LAST_RAIN = 40, LAST_QUARTER = 60;
    private static final int MOST_HEARD = 8, MOST_TO_SHARE = 8, IMAGES = 2;
    private static final int NULL = 1, INDEX = 2, CAST = 3, SIZE = 4;

    private final Rock rock;
    private final Tape tape;
    private final Reader reader;
    private final Ways ways;
    private final Walk walk;
    private final Dawn morning;
    private final Sharing sharing;
    private final Guess guess;
    private final Sheets sheets;
    private final Rock[] images;
    private int imagesKept;
    private int tornFault;

    public ChalkRoads() {
        rock = new Rock();
        tape = new Tape();
        reader = new Reader(tape);
        ways = new Ways(rock);
        walk = new Walk(rock, ways);
        morning = new Dawn(rock, ways);
        sharing = new Sharing(rock);
        guess = new Guess(rock);
        sheets = new Sheets();
        images = new Rock[IMAGES];
        for (int k = 0; k < IMAGES; k++) {
            images[k] = new Rock();
        }
        imagesKept = 0;
        tornFault = 0;
    }

    // ---- the text

    public int feed(long v) {
        return tape.append(v);
    }

    public int end(int n) {
        return tape.cut(n);
    }

    public int text() {
        int found = reader.readAll();
        tape.cut(0);
        if (found != 0) {
            return -10 - reader.faultPlace;
        }
        rock.copyOf(reader.told);
        imagesKept = 0;
        return reader.toldLines;
    }

    public int fault() {
        return reader.fault;
    }

    public int rule(int what) {
        switch (what) {
            case 0: return rock.points;
            case 1: return rock.lines;
            case 2: return rock.drawers;
            case 3: return rock.people;
            case 4: return rock.houses;
            default: return BAD;
        }
    }

    public int line(int l, int what) {
        if (!rock.hasLine(l)) {
            return BAD;
        }
        switch (what) {
            case 0: return rock.from[l];
            case 1: return rock.to[l];
            case 2: return rock.yards[l];
            case 3: return rock.strength[l];
            case 4: return bit(rock.hasRoof(l));
            default: return BAD;
        }
    }

    public int chalk(int d) {
        if (!rock.hasDrawer(d)) {
            return BAD;
        }
        return rock.chalk[d];
    }

    public int one(int p, int what) {
        if (!rock.hasOne(p)) {
            return BAD;
        }
        switch (what) {
            case 0: return rock.home[p];
            case 1: return rock.goal[p];
            case 2: return rock.start[p];
            default: return BAD;
        }
    }

    public int rain(int q) {
        if (!isRainQuarter(q)) {
            return BAD;
        }
        return bit(rock.rainsIn(q));
    }

    // ---- what is changed

    public int draw(int d, int l) {
        if (!rock.hasDrawer(d) || !rock.hasLine(l)) {
            return BAD;
        }
        if (rock.chalk[d] < rock.yards[l]) {
            return STATE;
        }
        rock.strength[l] = MOST_STRENGTH;
        rock.chalk[d] -= rock.yards[l];
        return rock.chalk[d];
    }

    public int rub(int l, int v) {
        if (!rock.hasLine(l) || v < 0 || v > MOST_STRENGTH) {
            return BAD;
        }
        int before = rock.strength[l];
        rock.strength[l] = v;
        return before;
    }

    public int wet() {
        int before = rock.wholeLines();
        rock.rainRubs(rock.strength);
        return before & ~rock.wholeLines();
    }

    public int cloud(int q, boolean is) {
        if (!isRainQuarter(q)) {
            return BAD;
        }
        int before = bit(rock.rainsIn(q));
        rock.setRain(q, is);
        return before;
    }

    public int build(int i, boolean is) {
        if (!rock.hasPoint(i)) {
            return BAD;
        }
        int before = bit(rock.isHouse(i));
        rock.setHouse(i, is);
        return before;
    }

    public int plan(int a, int b, int yards) {
        if (!rock.hasPoint(a) || !rock.hasPoint(b) || a == b || yards < 1 || yards > MOST_YARDS) {
            return BAD;
        }
        return rock.addLine(a, b, yards, 0);
    }

    // ---- ways

    public int way(int a, int b, int what) {
        if (!rock.hasPoint(a) || !rock.hasPoint(b) || !isWayQuestion(what)) {
            return BAD;
        }
        int whole = rock.wholeLines();
        ways.beginAnew();
        if (what == 0) {
            return ways.yardsOfWay(a, b, whole);
        }
        if (what == 1) {
            return ways.linesOfWay(a, b, whole);
        }
        return ways.lineOfWay(a, b, what - 10, whole);
    }

    public int part(int a) {
        if (!rock.hasPoint(a)) {
            return BAD;
        }
        return ways.reached(a, rock.wholeLines());
    }

    public int meet(int some) {
        if (!rock.hasLines(some)) {
            return BAD;
        }
        return bit(ways.housesMeet(some));
    }

    public int needed() {
        int whole = rock.wholeLines();
        if (!ways.housesMeet(whole)) {
            return STATE;
        }
        return ways.linesNeeded(whole);
    }

    // ---- a run

    public int where(int p, int q) {
        if (!rock.hasOne(p) || !isQuarterBehind(q)) {
            return BAD;
        }
        walk.run(q, NO_QUARTER);
        return walk.at[p];
    }

    public int strength(int l, int q) {
        if (!rock.hasLine(l) || !isQuarterBehind(q)) {
            return BAD;
        }
        walk.run(q, NO_QUARTER);
        return walk.strengths[l];
    }

    public int comes(int p) {
        if (!rock.hasOne(p)) {
            return BAD;
        }
        walk.run(LAST_QUARTER, NO_QUARTER);
        return walk.cameIn[p] > 0 ? walk.cameIn[p] : NONE;
    }

    public int waited(int p, int q) {
        if (!rock.hasOne(p) || !isQuarterBehind(q)) {
            return BAD;
        }
        walk.run(q, NO_QUARTER);
        return walk.waits[p];
    }

    public int lost(int q) {
        if (!isQuarterBehind(q)) {
            return BAD;
        }
        walk.run(q, NO_QUARTER);
        return walk.whoIsLost();
    }

    public int storm(int q) {
        if (!isQuarterBehind(q)) {
            return BAD;
        }
        walk.run(q, NO_QUARTER);
        return walk.whoIsInTheOpen();
    }

    public int worst(int what) {
        if (what != 0 && what != 1) {
            return BAD;
        }
        walk.run(LAST_QUARTER, NO_QUARTER);
        int most = Integer.bitCount(walk.whoIsLost());
        int quarter = NONE;
        for (int q = FIRST_RAIN; q <= LAST_RAIN; q++) {
            walk.run(LAST_QUARTER, q);
            int many = Integer.bitCount(walk.whoIsLost());
            if (many > most) {
                most = many;
                quarter = q;
            }
        }
        return quarter == NONE || what == 0 ? quarter : most;
    }

    // ---- dawns

    public int dawn(int what) {
        return morning.answer(what, false);
    }

    public int sure(int what) {
        return morning.answer(what, true);
    }

    public int share(int some, int what) {
        int l = what - 10;
        if (!rock.hasLines(some) || Integer.bitCount(some) > MOST_TO_SHARE) {
            return BAD;
        }
        if (what != 0 && what != 1 && !(what >= 10 && rock.hasLine(l))) {
            return BAD;
        }
        int who = sharing.fewestDrawers(some);
        if (who == NONE || what == 1) {
            return who;
        }
        if (what == 0) {
            return Integer.bitCount(who);
        }
        return has(some, l) ? sharing.drawerOf[l] : NONE;
    }

    // ---- breaks

    public int hear(int some, boolean came) {
        return rock.addHeard(some, came);
    }

    public int forget(int n) {
        if (n < 0 || n > rock.heard) {
            return BAD;
        }
        int before = rock.heard;
        rock.heard = n;
        return before;
    }

    public int breaks(int what) {
        if (what < 0 || what > 3) {
            return BAD;
        }
        guess.reckon();
        if (what == 0) {
            return guess.many;
        }
        if (what == 3) {
            return guess.manyFewest;
        }
        if (guess.many == 0) {
            return NONE;
        }
        return what == 1 ? guess.fewest : guess.first;
    }

    public int known(int what) {
        if (what != 0 && what != 1) {
            return BAD;
        }
        guess.reckon();
        if (guess.many == 0) {
            return NONE;
        }
        return what == 0 ? guess.inAll : rock.allLines() & ~guess.inAny;
    }

    public int ask(int what) {
        if (what != 0 && what != 1) {
            return BAD;
        }
        guess.reckon();
        int l = guess.bestToAsk();
        return l == NONE || what == 0 ? l : guess.leftAtWorst(l);
    }

    // ---- images, sheets

    public int keep(int k) {
        if (k < 0 || k >= IMAGES) {
            return BAD;
        }
        int before = bit(has(imagesKept, k));
        images[k].copyOf(rock);
        imagesKept |= 1 << k;
        return before;
    }

    public int back(int k) {
        if (k < 0 || k >= IMAGES) {
            return BAD;
        }
        if (!has(imagesKept, k)) {
            return STATE;
        }
        rock.copyOf(images[k]);
        return rock.lines;
    }

    public int sheet(int k, int lane, int n) {
        if (!sheets.hasSheet(k) || !sheets.hasLane(lane) || n > Sheets.MOST_CELLS) {
            return BAD;
        }
        if (n < 0) {
            return -10 - SIZE;
        }
        sheets.makeAnew(k, lane, n);
        return 1;
    }

    public int lay(int k, int i, int v) {
        if (!sheets.hasSheet(k)) {
            return BAD;
        }
        if (sheets.isNothing(k)) {
            return -10 - NULL;
        }
        if (!sheets.hasCell(k, i)) {
            return -10 - INDEX;
        }
        sheets.setCell(k, i, v);
        return 1;
    }

    public int read(int k, int lane, int f, int n) {
        if (!sheets.hasSheet(k) || !sheets.hasLane(lane) || n < 0 || n > MOST_HEARD) {
            return BAD;
        }
        int before = rock.heard;
        int found = n == 0 ? 0 : sheets.faultOfTaking(k, lane);
        for (int i = 0; i < n && found == 0; i++) {
            if (!sheets.hasTwoCells(k, f + 2 * i)) {
                found = INDEX;
            } else if (!hearCells(k, f + 2 * i)) {
                rock.heard = before;
                return -20 - i;
            }
        }
        tornFault = found;
        return rock.heard - before;
    }

    public int torn() {
        return tornFault;
    }

    public int count(int what) {
        switch (what) {
            case 0: return Integer.bitCount(rock.wholeLines());
            case 1: return rock.heard;
            case 2: return Integer.bitCount(imagesKept);
            case 3: return tape.length;
            case 4: return sheets.isNothing(0) ? NONE : sheets.sizeOf(0);
            default: return BAD;
        }
    }

    /** One hear() as two CELLS tell it: whether it was taken. */
    private boolean hearCells(int k, int i) {
        int came = sheets.cell(k, i + 1);
        if (came != 0 && came != 1) {
            return false;
        }
        return rock.addHeard(sheets.cell(k, i), came == 1) > 0;
    }

    private static boolean isRainQuarter(int q) {
        return q >= FIRST_RAIN && q <= LAST_RAIN;
    }

    private static boolean isQuarterBehind(int q) {
        return q >= 0 && q <= LAST_QUARTER;
    }

    private static boolean isWayQuestion(int what) {
        return what == 0 || what == 1 || what >= 10 && what <= 18;
    }

    private static int bit(boolean is) {
        return is ? 1 : 0;
    }

    private static boolean has(int bits, int i) {
        return (bits >> i & 1) != 0;
    }

    /** All that a text tells and an IMAGE keeps. */
    private static final class Rock {
        int points;
        int houses;
        int lines;
        final int[] from;
        final int[] to;
        final int[] yards;
        final int[] strength;
        int roofs;
        int drawers;
        final int[] chalk;
        int people;
        final int[] home;
        final int[] goal;
        final int[] start;
        long rainBits;
        int heard;
        final int[] heardOver;
        int heardCame;

        Rock() {
            from = new int[MOST_LINES];
            to = new int[MOST_LINES];
            yards = new int[MOST_LINES];
            strength = new int[MOST_LINES];
            chalk = new int[MOST_DRAWERS];
            home = new int[MOST_PEOPLE];
            goal = new int[MOST_PEOPLE];
            start = new int[MOST_PEOPLE];
            heardOver = new int[MOST_HEARD];
            points = FIRST_POINTS;
        }

        /** What stands in the rows behind the numbers is never looked at, and may stay. */
        void clear() {
            points = FIRST_POINTS;
            houses = 0;
            lines = 0;
            roofs = 0;
            drawers = 0;
            people = 0;
            rainBits = 0;
            heard = 0;
            heardCame = 0;
        }

        void copyOf(Rock other) {
            points = other.points;
            houses = other.houses;
            lines = other.lines;
            roofs = other.roofs;
            drawers = other.drawers;
            people = other.people;
            rainBits = other.rainBits;
            heard = other.heard;
            heardCame = other.heardCame;
            System.arraycopy(other.from, 0, from, 0, MOST_LINES);
            System.arraycopy(other.to, 0, to, 0, MOST_LINES);
            System.arraycopy(other.yards, 0, yards, 0, MOST_LINES);
            System.arraycopy(other.strength, 0, strength, 0, MOST_LINES);
            System.arraycopy(other.chalk, 0, chalk, 0, MOST_DRAWERS);
            System.arraycopy(other.home, 0, home, 0, MOST_PEOPLE);
            System.arraycopy(other.goal, 0, goal, 0, MOST_PEOPLE);
            System.arraycopy(other.start, 0, start, 0, MOST_PEOPLE);
            System.arraycopy(other.heardOver, 0, heardOver, 0, MOST_HEARD);
        }

        boolean hasPoint(int i) {
            return i >= 0 && i < points;
        }

        boolean hasLine(int l) {
            return l >= 0 && l < lines;
        }

        boolean hasLines(int some) {
            return some >= 0 && some <= allLines();
        }

        boolean hasDrawer(int d) {
            return d >= 0 && d < drawers;
        }

        boolean hasOne(int p) {
            return p >= 0 && p < people;
        }

        boolean hasRoof(int l) {
            return has(roofs, l);
        }

        boolean isHouse(int i) {
            return has(houses, i);
        }

        void setHouse(int i, boolean is) {
            houses = is ? houses | 1 << i : houses & ~(1 << i);
        }

        boolean rainsIn(int q) {
            return isRainQuarter(q) && (rainBits >> q & 1L) != 0;
        }

        void setRain(int q, boolean is) {
            rainBits = is ? rainBits | 1L << q : rainBits & ~(1L << q);
        }

        int allLines() {
            return (1 << lines) - 1;
        }

        int wholeLines() {
            return wholeBy(strength);
        }

        /** A RUN has strengths of its own, by which LINES are WHOLE or not. */
        int wholeBy(int[] strengths) {
            int whole = 0;
            for (int l = 0; l < lines; l++) {
                if (strengths[l] > 0) {
                    whole |= 1 << l;
                }
            }
            return whole;
        }

        void rainRubs(int[] strengths) {
            for (int l = 0; l < lines; l++) {
                if (!hasRoof(l) && strengths[l] > 0) {
                    strengths[l]--;
                }
            }
        }

        /** Of all that are named; 0 if none is. */
        int highestPoint() {
            int highest = 0;
            for (int i = 0; i < MOST_POINTS; i++) {
                if (isHouse(i)) {
                    highest = i;
                }
            }
            for (int l = 0; l < lines; l++) {
                highest = Math.max(highest, Math.max(from[l], to[l]));
            }
            for (int p = 0; p < people; p++) {
                highest = Math.max(highest, Math.max(home[p], goal[p]));
            }
            return highest;
        }

        int otherEnd(int l, int point) {
            return from[l] == point ? to[l] : from[l];
        }

        int yardsOf(int some) {
            int sum = 0;
            for (int l = 0; l < lines; l++) {
                if (has(some, l)) {
                    sum += yards[l];
                }
            }
            return sum;
        }

        /** Its number, without a ROOF; FULL. */
        int addLine(int a, int b, int length, int strong) {
            if (lines >= MOST_LINES) {
                return FULL;
            }
            from[lines] = a;
            to[lines] = b;
            yards[lines] = length;
            strength[lines] = strong;
            lines++;
            return lines - 1;
        }

        void addDrawer(int much) {
            if (drawers < MOST_DRAWERS) {
                chalk[drawers] = much;
                drawers++;
            }
        }

        void addOne(int at, int to, int when) {
            if (people < MOST_PEOPLE) {
                home[people] = at;
                goal[people] = to;
                start[people] = when;
                people++;
            }
        }

        /** How many are HEARD then; BAD; FULL. */
        int addHeard(int some, boolean came) {
            if (some == 0 || !hasLines(some)) {
                return BAD;
            }
            if (heard >= MOST_HEARD) {
                return FULL;
            }
            heardOver[heard] = some;
            heardCame = came ? heardCame | 1 << heard : heardCame & ~(1 << heard);
            heard++;
            return heard;
        }
    }

    private static final class Tape {
        static final int MOST_BYTES = 400;
        static final int BYTES_OF_A_FEED = 8;

        final int[] bytes;
        int length;

        Tape() {
            bytes = new int[MOST_BYTES];
            length = 0;
        }

        int append(long v) {
            if (length + BYTES_OF_A_FEED > MOST_BYTES) {
                return FULL;
            }
            for (int i = 0; i < BYTES_OF_A_FEED; i++) {
                bytes[length + i] = (int) (v >> 56 - 8 * i & 255L);
            }
            length += BYTES_OF_A_FEED;
            return length;
        }

        int cut(int n) {
            if (n < 0 || n > length) {
                return BAD;
            }
            int before = length;
            length = n;
            return before;
        }

        /** -1 where there is none: no byte is that. */
        int byteAt(int i) {
            return i >= 0 && i < length ? bytes[i] : -1;
        }

        /** The first place from i on (0 at least) whose byte is none of these. */
        int behindAll(int i, int least, int most) {
            int at = i;
            while (at >= 0 && at < length && bytes[at] >= least && bytes[at] <= most) {
                at++;
            }
            return at;
        }

        /** Of two figures at most: one that is longer is a FAULT, whatever it tells. */
        int numberOf(int i, int behind) {
            int number = 0;
            for (int at = i; at >= 0 && at < length && at < behind && at < i + 2; at++) {
                number = number * 10 + bytes[at] - '0';
            }
            return number;
        }
    }

    /**
     * Reads a text TOKEN by TOKEN into a rock of its own, so that what was told before
     * stays if there is a FAULT.
     */
    private static final class Reader {
        static final int END = 0, NAME = 1, NUMBER = 2, SIGN = 3;
        static final int HIGHEST_POINT = MOST_POINTS - 1;

        final Tape tape;
        final Rock told;
        int toldLines;
        int fault;
        int faultPlace;
        boolean pointsTold;
        int kind;
        int place;
        int behind;
        int value;

        Reader(Tape tape) {
            this.tape = tape;
            told = new Rock();
        }

        /** The FAULT; 0. */
        int readAll() {
            told.clear();
            toldLines = 0;
            fault = 0;
            faultPlace = 0;
            pointsTold = false;
            behind = 0;
            boolean more = true;
            for (int i = 0; i <= Tape.MOST_BYTES && more; i++) {
                more = readOneLine();
            }
            if (fault == 0 && told.highestPoint() >= told.points) {
                fail(6, tape.length);
            }
            return fault;
        }

        /** Whether there may be one more. */
        boolean readOneLine() {
            if (!nextToken() || kind == END) {
                return false;
            }
            boolean taken;
            if (nameIs("points")) {
                taken = readPoints();
            } else if (nameIs("house")) {
                taken = readHouse();
            } else if (nameIs("line")) {
                taken = readLine();
            } else if (nameIs("drawer")) {
                taken = readDrawer();
            } else if (nameIs("one")) {
                taken = readOne();
            } else if (nameIs("rain")) {
                taken = readRain();
            } else {
                taken = fail(2, place);
            }
            if (taken) {
                toldLines++;
            }
            return taken;
        }

        boolean readPoints() {
            if (pointsTold) {
                return fail(4, place);
            }
            pointsTold = true;
            if (!nextNumber(FEWEST_POINTS, MOST_POINTS)) {
                return false;
            }
            told.points = value;
            return nextSign();
        }

        boolean readHouse() {
            if (!nextNumber(0, HIGHEST_POINT)) {
                return false;
            }
            if (told.isHouse(value)) {
                return fail(4, place);
            }
            told.setHouse(value, true);
            return nextSign();
        }

        boolean readLine() {
            if (told.lines >= MOST_LINES) {
                return fail(5, place);
            }
            if (!nextNumber(0, HIGHEST_POINT)) {
                return false;
            }
            int a = value;
            if (!nextNumber(0, HIGHEST_POINT)) {
                return false;
            }
            int b = value;
            if (a == b) {
                return fail(4, place);
            }
            if (!nextNumber(1, MOST_YARDS)) {
                return false;
            }
            int yards = value;
            if (!nextNumber(0, MOST_STRENGTH)) {
                return false;
            }
            told.addLine(a, b, yards, value);
            return nextRoof();
        }

        /** The end of a line that tells a LINE. */
        boolean nextRoof() {
            if (!nextToken()) {
                return false;
            }
            if (nameIs("roof")) {
                told.roofs |= 1 << told.lines - 1;
                if (!nextToken()) {
                    return false;
                }
            }
            return kind == SIGN || fail(2, place);
        }

        boolean readDrawer() {
            if (told.drawers >= MOST_DRAWERS) {
                return fail(5, place);
            }
            if (!nextNumber(0, MOST_CHALK)) {
                return false;
            }
            told.addDrawer(value);
            return nextSign();
        }

        boolean readOne() {
            if (told.people >= MOST_PEOPLE) {
                return fail(5, place);
            }
            if (!nextNumber(0, HIGHEST_POINT)) {
                return false;
            }
            int home = value;
            if (!nextNumber(0, HIGHEST_POINT)) {
                return false;
            }
            int goal = value;
            if (home == goal) {
                return fail(4, place);
            }
            if (!nextNumber(0, LAST_START)) {
                return false;
            }
            told.addOne(home, goal, value);
            return nextSign();
        }

        boolean readRain() {
            if (!nextNumber(FIRST_RAIN, LAST_RAIN)) {
                return false;
            }
            if (told.rainsIn(value)) {
                return fail(4, place);
            }
            told.setRain(value, true);
            return nextSign();
        }

        /** Always false, so that a reading can end with it. */
        boolean fail(int what, int where) {
            fault = what;
            faultPlace = where;
            return false;
        }

        boolean nextSign() {
            return nextToken() && (kind == SIGN || fail(2, place));
        }

        boolean nextNumber(int least, int most) {
            if (!nextToken()) {
                return false;
            }
            if (kind != NUMBER) {
                return fail(2, place);
            }
            return value >= least && value <= most || fail(3, place);
        }

        /** False if there is no TOKEN; the end is one here. */
        boolean nextToken() {
            place = tape.behindAll(behind, ' ', ' ');
            behind = place + 1;
            int sign = tape.byteAt(place);
            if (sign < 0) {
                kind = END;
            } else if (sign == ';') {
                kind = SIGN;
            } else if (sign >= 'a' && sign <= 'z') {
                kind = NAME;
                behind = tape.behindAll(place, 'a', 'z');
            } else if (sign >= '0' && sign <= '9') {
                kind = NUMBER;
                behind = tape.behindAll(place, '0', '9');
                value = tape.numberOf(place, behind);
                return behind - place <= 2 || fail(1, place);
            } else {
                return fail(1, place);
            }
            return true;
        }

        /** Of a TOKEN that is no NAME never. */
        boolean nameIs(String name) {
            if (behind - place != name.length()) {
                return false;
            }
            for (int i = 0; i < name.length(); i++) {
                if (tape.byteAt(place + i) != name.charAt(i)) {
                    return false;
                }
            }
            return true;
        }
    }

    /** Who comes where by some LINES, and THE WAY. */
    private static final class Ways {
        /** A cost is YARDS and LINES in one number: fewest YARDS, then fewest LINES. */
        static final int YARD = 16;
        static final int FAR = 1 << 20;
        static final int NOT_RECKONED = -1;

        final Rock rock;
        final int[] costs;
        final int[] reckonedBy;

        Ways(Rock rock) {
            this.rock = rock;
            costs = new int[MOST_POINTS * MOST_POINTS];
            reckonedBy = new int[MOST_POINTS];
        }

        /** Costs stand while LINES change in a RUN by being WHOLE or not alone. */
        void beginAnew() {
            for (int i = 0; i < MOST_POINTS; i++) {
                reckonedBy[i] = NOT_RECKONED;
            }
        }

        int yardsOfWay(int from, int goal, int some) {
            reckonTo(goal, some);
            int cost = costs[goal * MOST_POINTS + from];
            return cost >= FAR ? NONE : cost / YARD;
        }

        int linesOfWay(int from, int goal, int some) {
            reckonTo(goal, some);
            int cost = costs[goal * MOST_POINTS + from];
            return cost >= FAR ? NONE : cost % YARD;
        }

        int lineOfWay(int from, int goal, int k, int some) {
            int at = from;
            for (int i = 0; i < k; i++) {
                int l = firstLine(at, goal, some);
                if (l == NONE) {
                    return NONE;
                }
                at = rock.otherEnd(l, at);
            }
            return firstLine(at, goal, some);
        }

        /** Of the LINES that begin a cheapest way the least is the first by LINES. */
        int firstLine(int at, int goal, int some) {
            reckonTo(goal, some);
            int cost = costs[goal * MOST_POINTS + at];
            if (cost >= FAR) {
                return NONE;
            }
            for (int l = 0; l < rock.lines; l++) {
                if (has(some, l) && (rock.from[l] == at || rock.to[l] == at)) {
                    int other = goal * MOST_POINTS + rock.otherEnd(l, at);
                    if (costs[other] + costOver(l) == cost) {
                        return l;
                    }
                }
            }
            return NONE;
        }

        int costOver(int l) {
            return rock.yards[l] * YARD + 1;
        }

        /** Costs from each POINT to a goal, if they do not stand already. */
        void reckonTo(int goal, int some) {
            if (reckonedBy[goal] == some) {
                return;
            }
            reckonedBy[goal] = some;
            int row = goal * MOST_POINTS;
            for (int i = 0; i < MOST_POINTS; i++) {
                costs[row + i] = i == goal ? 0 : FAR;
            }
            boolean better = true;
            for (int round = 0; round < MOST_POINTS && better; round++) {
                better = false;
                for (int l = 0; l < rock.lines; l++) {
                    int a = row + rock.from[l];
                    int b = row + rock.to[l];
                    if (has(some, l) && Math.abs(costs[a] - costs[b]) > costOver(l)) {
                        int cost = Math.min(costs[a], costs[b]) + costOver(l);
                        costs[a] = Math.min(costs[a], cost);
                        costs[b] = Math.min(costs[b], cost);
                        better = true;
                    }
                }
            }
        }

        int reached(int point, int some) {
            int reached = 1 << point;
            int before = 0;
            for (int round = 0; round < MOST_POINTS && reached != before; round++) {
                before = reached;
                for (int l = 0; l < rock.lines; l++) {
                    int ends = 1 << rock.from[l] | 1 << rock.to[l];
                    if (has(some, l) && (reached & ends) != 0) {
                        reached |= ends;
                    }
                }
            }
            return reached;
        }

        boolean housesMeet(int some) {
            int houses = rock.houses;
            if (houses == 0) {
                return true;
            }
            int first = Integer.numberOfTrailingZeros(houses);
            return (houses & ~reached(first, some)) == 0;
        }

        /** Those of some LINES without which alone HOUSES do not MEET by the others. */
        int linesNeeded(int some) {
            int needed = 0;
            for (int l = 0; l < rock.lines; l++) {
                if (has(some, l) && !housesMeet(some & ~(1 << l))) {
                    needed |= 1 << l;
                }
            }
            return needed;
        }
    }

    /** A RUN: it begins with what is told each time, and changes nothing of it. */
    private static final class Walk {
        static final int ON_A_LINE = 100;

        final Rock rock;
        final Ways ways;
        final int[] strengths;
        /** A POINT, 100 and a LINE, or NONE: as where() answers. */
        final int[] at;
        final int[] yardsToGo;
        final int[] nextPoint;
        final int[] waits;
        final int[] cameIn;

        Walk(Rock rock, Ways ways) {
            this.rock = rock;
            this.ways = ways;
            strengths = new int[MOST_LINES];
            at = new int[MOST_PEOPLE];
            yardsToGo = new int[MOST_PEOPLE];
            nextPoint = new int[MOST_PEOPLE];
            waits = new int[MOST_PEOPLE];
            cameIn = new int[MOST_PEOPLE];
        }

        /** Up to a QUARTER; in one (or in NO_QUARTER) RAIN comes to what is told. */
        void run(int last, int moreRain) {
            ways.beginAnew();
            System.arraycopy(rock.strength, 0, strengths, 0, MOST_LINES);
            System.arraycopy(rock.home, 0, at, 0, MOST_PEOPLE);
            for (int p = 0; p < MOST_PEOPLE; p++) {
                yardsToGo[p] = 0;
                waits[p] = 0;
                cameIn[p] = 0;
            }
            for (int q = 1; q <= last; q++) {
                if (rock.rainsIn(q) || q == moreRain) {
                    fallOfRain();
                }
                for (int p = 0; p < rock.people; p++) {
                    step(p, q);
                }
            }
        }

        void fallOfRain() {
            rock.rainRubs(strengths);
            for (int l = 0; l < rock.lines; l++) {
                loseIfBroken(l);
            }
        }

        void loseIfBroken(int l) {
            if (strengths[l] > 0) {
                return;
            }
            for (int p = 0; p < rock.people; p++) {
                if (at[p] == ON_A_LINE + l) {
                    at[p] = NONE;
                }
            }
        }

        void step(int p, int q) {
            int here = at[p];
            if (here >= ON_A_LINE) {
                goOn(p, here - ON_A_LINE, q);
            } else if (here >= 0 && here != rock.goal[p] && q > rock.start[p]) {
                setOut(p, here);
            }
        }

        void goOn(int p, int l, int q) {
            yardsToGo[p]--;
            if (yardsToGo[p] > 0) {
                return;
            }
            at[p] = nextPoint[p];
            if (at[p] == rock.goal[p]) {
                cameIn[p] = q;
            }
            strengths[l] = Math.max(0, strengths[l] - 1);
            loseIfBroken(l);
        }

        void setOut(int p, int here) {
            int l = ways.firstLine(here, rock.goal[p], rock.wholeBy(strengths));
            if (l == NONE) {
                waits[p]++;
                return;
            }
            at[p] = ON_A_LINE + l;
            yardsToGo[p] = rock.yards[l];
            nextPoint[p] = rock.otherEnd(l, here);
        }

        int whoIsLost() {
            int who = 0;
            for (int p = 0; p < rock.people; p++) {
                if (at[p] == NONE) {
                    who |= 1 << p;
                }
            }
            return who;
        }

        int whoIsInTheOpen() {
            int who = 0;
            for (int p = 0; p < rock.people; p++) {
                if (at[p] >= ON_A_LINE && !rock.hasRoof(at[p] - ON_A_LINE)) {
                    who |= 1 << p;
                }
            }
            return who;
        }
    }

    /** The DAWN, or the SURE one, of the fewest YARDS. */
    private static final class Dawn {
        final Rock rock;
        final Ways ways;
        int yards;
        int drawn;

        Dawn(Rock rock, Ways ways) {
            this.rock = rock;
            this.ways = ways;
        }

        int answer(int what, boolean sureOne) {
            if (what != 0 && what != 1) {
                return BAD;
            }
            seek(sureOne);
            return what == 0 ? yards : drawn;
        }

        /** By bits from the least on, so that of several the least stays. */
        void seek(boolean sureOne) {
            int whole = rock.wholeLines();
            yards = NONE;
            drawn = NONE;
            for (int some = 0; some <= rock.allLines(); some++) {
                if ((some & whole) == 0) {
                    int sum = rock.yardsOf(some);
                    boolean isFewer = drawn == NONE || sum < yards;
                    if (isFewer && ways.housesMeet(some | whole)
                            && (!sureOne || ways.linesNeeded(some | whole) == 0)) {
                        yards = sum;
                        drawn = some;
                    }
                }
            }
        }
    }

    /** Which DRAWERS DRAW some LINES, by as few of them as can be. */
    private static final class Sharing {
        final Rock rock;
        final int[] left;
        final int[] drawerOf;

        Sharing(Rock rock) {
            this.rock = rock;
            left = new int[MOST_DRAWERS];
            drawerOf = new int[MOST_LINES];
        }

        /** Bits; NONE. With the fewest there is none of them who has nothing to DRAW. */
        int fewestDrawers(int some) {
            for (int many = 0; many <= rock.drawers; many++) {
                for (int who = 0; who < 1 << rock.drawers; who++) {
                    if (Integer.bitCount(who) == many && canDraw(some, who)) {
                        return who;
                    }
                }
            }
            return NONE;
        }

        boolean canDraw(int some, int who) {
            int sum = 0;
            for (int d = 0; d < rock.drawers; d++) {
                left[d] = has(who, d) ? rock.chalk[d] : 0;
                sum += left[d];
            }
            return sum >= rock.yardsOf(some) && give(rock, some, 0, left, drawerOf);
        }

        /** Gives out LINE l and those behind it: one call for each LINE stands open. */
        private static boolean give(Rock rock, int some, int l, int[] left, int[] drawerOf) {
            if (l >= rock.lines) {
                return true;
            }
            if (!has(some, l)) {
                return give(rock, some, l + 1, left, drawerOf);
            }
            int yards = rock.yards[l];
            for (int d = 0; d < rock.drawers; d++) {
                if (left[d] >= yards) {
                    left[d] -= yards;
                    drawerOf[l] = d;
                    if (give(rock, some, l + 1, left, drawerOf)) {
                        return true;
                    }
                    left[d] += yards;
                }
            }
            return false;
        }
    }

    /** BREAKS: the sets of LINES by which all that was HEARD is so. */
    private static final class Guess {
        final Rock rock;
        int many;
        int fewest;
        int first;
        int manyFewest;
        int inAll;
        int inAny;
        final int[] manyWith;

        Guess(Rock rock) {
            this.rock = rock;
            manyWith = new int[MOST_LINES];
        }

        void reckon() {
            many = 0;
            fewest = MOST_LINES + 1;
            first = NONE;
            manyFewest = 0;
            inAll = rock.allLines();
            inAny = 0;
            for (int l = 0; l < MOST_LINES; l++) {
                manyWith[l] = 0;
            }
            for (int broken = 0; broken <= rock.allLines(); broken++) {
                if (fits(broken)) {
                    add(broken);
                }
            }
        }

        boolean fits(int broken) {
            for (int h = 0; h < rock.heard; h++) {
                boolean open = (rock.heardOver[h] & broken) == 0;
                if (open != has(rock.heardCame, h)) {
                    return false;
                }
            }
            return true;
        }

        void add(int broken) {
            many++;
            inAll &= broken;
            inAny |= broken;
            for (int l = 0; l < rock.lines; l++) {
                manyWith[l] += bit(has(broken, l));
            }
            int size = Integer.bitCount(broken);
            if (size < fewest) {
                fewest = size;
                first = broken;
                manyFewest = 0;
            }
            if (size == fewest) {
                manyFewest++;
            }
        }

        int leftAtWorst(int l) {
            return Math.max(manyWith[l], many - manyWith[l]);
        }

        int bestToAsk() {
            int best = NONE;
            int fewestLeft = many;
            for (int l = 0; l < rock.lines; l++) {
                if (leftAtWorst(l) < fewestLeft) {
                    fewestLeft = leftAtWorst(l);
                    best = l;
                }
            }
            return best;
        }
    }

    /** SHEETS, all CELLS of them in one row made at first: a new SHEET takes its part anew. */
    private static final class Sheets {
        static final int MOST_CELLS = 40;
        static final int SHEETS = 4;
        static final int BYTES = 0, SHORTS = 1, INTS = 2;
        static final int NOTHING = -1;

        final int[] cells;
        final int[] lanes;
        final int[] sizes;

        Sheets() {
            cells = new int[SHEETS * MOST_CELLS];
            lanes = new int[SHEETS];
            sizes = new int[SHEETS];
            for (int k = 0; k < SHEETS; k++) {
                sizes[k] = NOTHING;
            }
        }

        boolean hasSheet(int k) {
            return k >= 0 && k < SHEETS;
        }

        boolean hasLane(int lane) {
            return lane >= BYTES && lane <= INTS;
        }

        boolean isNothing(int k) {
            return sizes[k] == NOTHING;
        }

        int sizeOf(int k) {
            return sizes[k];
        }

        boolean hasCell(int k, int i) {
            return i >= 0 && i < sizes[k];
        }

        boolean hasTwoCells(int k, int i) {
            return hasCell(k, i) && hasCell(k, i + 1);
        }

        int cell(int k, int i) {
            return cells[k * MOST_CELLS + i];
        }

        void makeAnew(int k, int lane, int n) {
            lanes[k] = lane;
            sizes[k] = n;
            for (int i = 0; i < n; i++) {
                cells[k * MOST_CELLS + i] = 0;
            }
        }

        void setCell(int k, int i, int v) {
            int kept = v;
            if (lanes[k] == BYTES) {
                kept = (byte) v;
            } else if (lanes[k] == SHORTS) {
                kept = (short) v;
            }
            cells[k * MOST_CELLS + i] = kept;
        }

        /** A machine that casts nothing casts it well, and finds the NULL behind it. */
        int faultOfTaking(int k, int lane) {
            if (isNothing(k)) {
                return NULL;
            }
            return lanes[k] == lane ? 0 : CAST;
        }
    }
}
