/**
 * A town whose clocks have two hands of one length. ../shared/DOC.md says what every call answers;
 * words in capitals in the comments here are that document's terms.
 */
public final class HandsAlike {
    public static final int NONE = -1;

    /** What a question answers whose arguments are fine but to which there is no such thing. */
    private static final int NOT_ANY = -2;
    private static final int NO_SUCH_MARK = -3;
    private static final int CANNOT_BE = -4;
    private static final int NO_CLOCK = -1000;

    private static final int LEAST_MARKS = 4;
    private static final int MOST_MARKS = 60;
    private static final int LEAST_TURNS = 2;
    private static final int MOST_TURNS = 24;
    private static final int MOST_TICKS = 1440;
    private static final int MOST_APART = 30;

    private static final int TAPE_BYTES = 260;
    private static final int LAW_BYTES = 240;
    private static final int CLOCKS_BYTES = 120;
    private static final int BOOK_BYTES = 160;

    private static final int CLOCKS = 8;
    private static final int MOST_GAIN = 99;
    private static final int MOST_SET = 9999;
    private static final int LAST_DAY = 9999;
    private static final int MOST_DAYS = 100;
    private static final int MOST_BETWEEN = 99;
    private static final int MOST_HEARD = 12;
    private static final int MOST_STROKES = 9999;
    private static final int LEAST_TEETH = 6;
    private static final int MOST_TEETH = 40;
    private static final int MOST_SEED = 65535;
    private static final int HOW_MANY_ROWS = 100;

    private final Dial face = new Dial();
    private final Dial otherFace = new Dial();
    private final Looks looks = new Looks(face);
    private final Bells bells = new Bells(face);
    private final Album album = new Album(face);
    private final Tape tape = new Tape();
    private final Reader reader = new Reader(tape);
    private final Tally tally = new Tally();
    private final Clocks now = new Clocks(face);
    private final Clocks kept = new Clocks(face);
    private final Clocks trial = new Clocks(face);
    private final int[] facts = new int[Law.FACTS.length()];
    private final int[] oneThere = new int[MOST_TICKS];
    private final int[] otherThere = new int[MOST_TICKS];
    /** The R of the BEST DIAL of so many MARKS; 0: not yet asked for. */
    private final int[] bestTurns = new int[MOST_MARKS + 1];
    private Law rules = new Law();
    private Law spareRules = new Law();
    private Book diary = new Book(face);
    private Book spareDiary = new Book(face);
    /** MARKS and R when all was KEPT; 0 and 0: nothing was. */
    private final int[] keptFace = new int[2];

    public HandsAlike() {
    }

    public boolean dial(int marks, int turns) {
        if (!isMarks(marks) || turns < LEAST_TURNS || turns > MOST_TURNS) {
            return false;
        }
        face.make(marks, turns);
        now.forget();
        diary.forget();
        return true;
    }

    public int feed(int a, int b, int c, int d, int e) {
        if (!tape.hasRoom(20)) {
            return NONE;
        }
        tape.add(a);
        tape.add(b);
        tape.add(c);
        tape.add(d);
        tape.add(e);
        return tape.size();
    }

    public int law(int n) {
        if (!canRead(n, LAW_BYTES)) {
            return NONE;
        }
        reader.begin(n);
        int answer = spareRules.read(reader);
        tape.empty();
        if (answer >= 0) {
            Law before = rules;
            rules = spareRules;
            spareRules = before;
        }
        return answer;
    }

    public int clocks(int n) {
        if (!canRead(n, CLOCKS_BYTES)) {
            return NONE;
        }
        reader.begin(n);
        int answer = trial.read(reader);
        tape.empty();
        if (answer >= 0) {
            now.copyClocks(trial);
        }
        return answer;
    }

    public int book(int n) {
        if (!canRead(n, BOOK_BYTES)) {
            return NONE;
        }
        reader.begin(n);
        int answer = spareDiary.read(reader);
        tape.empty();
        if (answer >= 0) {
            Book before = diary;
            diary = spareDiary;
            spareDiary = before;
        }
        return answer;
    }

    public int reads(int time, int what) {
        if (!face.isTime(time)) {
            return NONE;
        }
        switch (what) {
            case 0:
                return face.shortAt(time);
            case 1:
                return face.longAt(time);
            case 2:
                return face.alikeMany(time);
            case 3:
                return looks.nextAlike(time);
            case 4:
                return looks.mirrorOf(time);
            case 5:
                return face.apartAt(time);
            default:
                return NONE;
        }
    }

    public int exchanged(int time) {
        if (!face.isTime(time)) {
            return NONE;
        }
        return face.lowest(face.longAt(time), face.shortAt(time));
    }

    public int mirrors(int what) {
        if (!isTwofold(what)) {
            return NONE;
        }
        return looks.mirroredMany(what == 1);
    }

    public int bestDial(int marks, int what) {
        if (!isMarks(marks) || !isTwofold(what)) {
            return NONE;
        }
        if (bestTurns[marks] == 0) {
            bestTurns[marks] = findBestTurns(marks);
        }
        if (what == 0) {
            return bestTurns[marks];
        }
        otherFace.make(marks, bestTurns[marks]);
        return otherFace.untoldMany();
    }

    public int untold(int what) {
        switch (what) {
            case 0:
                return face.untoldMany();
            case 1:
                return looks.firstUntold();
            case 2:
                return looks.longestRow(false);
            case 3:
                return looks.longestRow(true);
            default:
                return NONE;
        }
    }

    public int till(int time) {
        return face.isTime(time) ? looks.ticksTillTold(time) : NONE;
    }

    public int glance(int time) {
        return face.isTime(time) ? looks.secondGlance(time) : NONE;
    }

    public int covered(int time) {
        if (time == -1) {
            return looks.apartMany(0);
        }
        return face.isTime(time) ? looks.nextCovered(time) : NONE;
    }

    public int apart(int marks) {
        if (marks < 0 || marks > MOST_APART) {
            return NONE;
        }
        return looks.apartMany(marks);
    }

    public int photographs(int n, int least, int most, int what) {
        boolean asked = what == HOW_MANY_ROWS || (what >= 0 && what < n);
        if (n < 1 || n > Album.IN_ROW || !asked || !isBetween(least, most) || !tape.has(2 * n)) {
            return NONE;
        }
        boolean seen = album.take(tape, n, least, most);
        tape.empty();
        if (!seen) {
            return NO_SUCH_MARK;
        }
        return what == HOW_MANY_ROWS ? album.rowsMany() : album.sureTime(what);
    }

    public int anyOrder(int n, int least, int most, int what) {
        boolean asked = isTwofold(what) && isBetween(least, most);
        if (n < 1 || n > Album.UNORDERED || !asked || !tape.has(2 * n)) {
            return NONE;
        }
        boolean seen = album.take(tape, n, least, most);
        tape.empty();
        if (!seen) {
            return NO_SUCH_MARK;
        }
        album.countOrders();
        return what == 0 ? album.ordersMany() : album.canBeFirst();
    }

    public int quiet(boolean halves) {
        return bells.longestQuiet(halves);
    }

    public int strokesTill(int time, int many, boolean halves) {
        if (!face.isTime(time) || many < 1 || many > MOST_STROKES) {
            return NONE;
        }
        return bells.ticksTillHeard(time, many, halves);
    }

    public int strokes(int from, int to, boolean halves) {
        if (!face.isTime(from) || !face.isTime(to) || to < from) {
            return NONE;
        }
        return bells.strokesBetween(from, to, halves);
    }

    public int heard(int n, boolean halves, int what) {
        if (n < 1 || n > MOST_HEARD || !isTwofold(what) || !tape.has(n)) {
            return NONE;
        }
        bells.match(tape, n, halves, tally);
        tape.empty();
        if (what == 0) {
            return tally.many();
        }
        if (tally.many() == 0) {
            return CANNOT_BE;
        }
        return tally.many() > 1 ? NOT_ANY : bells.timeOf(tally.first() + n - 1, halves);
    }

    public int listen(boolean halves) {
        return bells.enoughStrikes(halves);
    }

    public int towers(int later, boolean halves, int what) {
        if (!face.isTime(later) || !isTwofold(what)) {
            return NONE;
        }
        return what == 0 ? bells.bothStrike(later, halves) : bells.loudest(later, halves);
    }

    public int wheels(int least, int most, int what) {
        if (least < LEAST_TEETH || most > MOST_TEETH || most < least || !isTwofold(what)) {
            return NONE;
        }
        return countWheels(least, most, what);
    }

    public int shows(int clock, int tick) {
        if (!now.isTold(clock) || !face.isTime(tick)) {
            return NONE;
        }
        return now.showsAt(clock, tick);
    }

    public int clockIs(int clock, int what) {
        if (!now.isTold(clock)) {
            return NO_CLOCK;
        }
        switch (what) {
            case 0:
                return now.ahead[clock];
            case 1:
                return now.gain[clock];
            case 2:
                return now.sets[clock];
            case 3:
            case 4:
                now.tallyRight(clock, tally);
                return tally.answer(what - 3);
            default:
                return NO_CLOCK;
        }
    }

    public int agree(int one, int other, boolean alike, int what) {
        if (!now.areTwo(one, other) || !isTwofold(what)) {
            return NONE;
        }
        now.tallyAgreed(one, other, alike, tally);
        return tally.answer(what);
    }

    public int agreeing(int one, int other) {
        return now.areTwo(one, other) ? now.longestAgreed(one, other) : NONE;
    }

    public int all(int what) {
        if (!isTwofold(what)) {
            return NONE;
        }
        now.tallyAllSame(tally);
        return tally.answer(what);
    }

    public int nearest(int tick, int what) {
        if (!face.isTime(tick) || !isTwofold(what)) {
            return NONE;
        }
        int clock = now.nearestTo(tick);
        if (clock < 0) {
            return NOT_ANY;
        }
        return what == 0 ? clock : now.offBy(clock, tick);
    }

    public int most(int tick, int what) {
        if (!face.isTime(tick) || !isTwofold(what)) {
            return NONE;
        }
        int clock = now.oneOfMost(tick);
        if (clock < 0) {
            return what == 0 ? NOT_ANY : 0;
        }
        return what == 0 ? now.showsAt(clock, tick) : now.showingSame(clock, tick);
    }

    public int pairs(int tick, int what) {
        if (!face.isTime(tick) || !isTwofold(what)) {
            return NONE;
        }
        return now.pairsMany(tick, what == 1);
    }

    public int spread(int tick) {
        return face.isTime(tick) ? now.narrowest(tick) : NONE;
    }

    public int goodTimes(int one, int other, int ticks, int what) {
        boolean asked = ticks >= 0 && ticks <= MOST_BETWEEN && isTwofold(what);
        if (!asked || !now.areTwo(one, other)) {
            return NONE;
        }
        now.firstTicks(one, oneThere);
        now.firstTicks(other, otherThere);
        tally.begin();
        int round = Math.min(face.round(), MOST_TICKS);
        for (int time = 0; time < round; time++) {
            if (Book.doMeet(oneThere[time], otherThere[time], ticks)) {
                tally.add(time);
            }
        }
        return tally.answer(what);
    }

    public boolean setBy(int one, int other) {
        if (!now.areTwo(one, other)) {
            return false;
        }
        now.setTo(one, now.ahead[other]);
        return true;
    }

    public int appointment(int i, int what) {
        if (!diary.has(i)) {
            return NONE;
        }
        switch (what) {
            case 0:
                return diary.one[i];
            case 1:
                return diary.other[i];
            case 2:
                return diary.time[i];
            case 3:
                return diary.ticks[i];
            case 4:
                return now.firstTick(diary.one[i], diary.time[i]);
            case 5:
                return now.firstTick(diary.other[i], diary.time[i]);
            case 6:
                return diary.meets(i, now) ? 1 : 0;
            case 7:
                return diary.waited(i, now);
            default:
                return NONE;
        }
    }

    public int meetings(int what) {
        if (!isTwofold(what)) {
            return NONE;
        }
        return what == 0 ? diary.meetMany(now) : diary.waitedInAll(now);
    }

    public int days(int n) {
        return isDays(n) ? passDays(now, n) : NONE;
    }

    public int tried(int n, int what) {
        boolean ofAhead = now.isTold(what - 10);
        boolean ofGain = now.isTold(what - 20);
        if (!isDays(n) || !(isTwofold(what) || ofAhead || ofGain)) {
            return NONE;
        }
        trial.copyAll(now);
        int setRight = passDays(trial, n);
        if (what == 0) {
            return setRight;
        }
        if (what == 1) {
            return diary.meetMany(trial);
        }
        return ofAhead ? trial.ahead[what - 10] : trial.gain[what - 20] + MOST_GAIN;
    }

    public int together(int one, int other, int n) {
        if (!isDays(n) || !now.areTwo(one, other)) {
            return NONE;
        }
        trial.copyAll(now);
        for (int gone = 0; gone <= n; gone++) {
            if (trial.ahead[one] == trial.ahead[other]) {
                return gone;
            }
            if (trial.day >= LAST_DAY) {
                return NOT_ANY;
            }
            passDay(trial);
        }
        return NOT_ANY;
    }

    public boolean seed(int x) {
        if (x < 0 || x > MOST_SEED) {
            return false;
        }
        now.drawn = x;
        return true;
    }

    public int keep() {
        kept.copyAll(now);
        keptFace[0] = face.marks;
        keptFace[1] = face.turns;
        return now.day;
    }

    public boolean undo() {
        if (keptFace[0] != face.marks || keptFace[1] != face.turns) {
            return false;
        }
        now.restore(kept);
        return true;
    }

    public int check(int n) {
        if (n < 0 || n > CLOCKS || !tape.has(n)) {
            return NOT_ANY;
        }
        int wrong = NONE;
        for (int clock = n - 1; clock >= 0; clock--) {
            if (tape.at(clock) != now.checkByte(clock)) {
                wrong = clock;
            }
        }
        tape.empty();
        return wrong;
    }

    public int count(int what) {
        switch (what) {
            case 0:
                return now.day;
            case 1:
                return now.toldBits();
            case 2:
                return diary.size;
            case 3:
                return face.marks;
            case 4:
                return face.turns;
            case 5:
                return rules.size();
            case 6:
                return tape.size();
            case 7:
                return now.drawn;
            case 8:
                return now.setsOfAll();
            default:
                return NONE;
        }
    }

    private static boolean isTwofold(int what) {
        return what == 0 || what == 1;
    }

    private static boolean isMarks(int marks) {
        return marks >= LEAST_MARKS && marks <= MOST_MARKS;
    }

    private static boolean isDays(int n) {
        return n >= 1 && n <= MOST_DAYS;
    }

    private static boolean isBetween(int least, int most) {
        return least >= 0 && least <= most && most <= MOST_BETWEEN;
    }

    private boolean canRead(int n, int most) {
        return n >= 1 && n <= most && tape.has(n);
    }

    private int findBestTurns(int marks) {
        int best = LEAST_TURNS;
        otherFace.make(marks, best);
        int fewest = otherFace.untoldMany();
        for (int turns = LEAST_TURNS + 1; turns <= MOST_TURNS; turns++) {
            otherFace.make(marks, turns);
            int many = otherFace.untoldMany();
            // many / (turns D) < fewest / (best D), without a division that would round
            if (many * best < fewest * turns) {
                best = turns;
                fewest = many;
            }
        }
        return best;
    }

    private int countWheels(int least, int most, int what) {
        int ways = 0;
        int fewest = NOT_ANY;
        for (int first = least; first <= most; first++) {
            for (int third = least; third <= most; third++) {
                int product = face.turns * first * third;
                for (int second = least; second <= most && product <= most * most; second++) {
                    int fourth = through(product, second);
                    if (fourth * second == product && fourth >= least && fourth <= most) {
                        int teeth = first + second + third + fourth;
                        fewest = ways == 0 ? teeth : Math.min(fewest, teeth);
                        ways++;
                    }
                }
            }
        }
        return what == 0 ? ways : fewest;
    }

    private int passDays(Clocks clocks, int n) {
        int setRight = 0;
        for (int gone = 0; gone < n && clocks.day < LAST_DAY; gone++) {
            setRight += passDay(clocks);
        }
        return setRight;
    }

    private int passDay(Clocks clocks) {
        int setRight = 0;
        for (int clock = 0; clock < CLOCKS; clock++) {
            if (clocks.told[clock] && passDayOf(clock, clocks)) {
                setRight++;
            }
        }
        clocks.day++;
        return setRight;
    }

    /** True: the CLOCK was set right. All is asked of THE LAW before anything of the CLOCK changes. */
    private boolean passDayOf(int clock, Clocks clocks) {
        clocks.lookAt(clock, clocks.draw(), facts);
        int stands = rules.valueOf('s', 999, facts);
        int more = rules.valueOf('g', 20, facts);
        int less = rules.valueOf('l', 20, facts);
        boolean right = rules.anyHolds('x', facts);
        int gained = Math.floorDiv(face.round() * clocks.gain[clock], 1000);
        clocks.ahead[clock] = face.around(clocks.ahead[clock] + gained - stands);
        clocks.gain[clock] = within(clocks.gain[clock] + more - less, -MOST_GAIN, MOST_GAIN);
        if (right) {
            clocks.setTo(clock, 0);
        }
        return right;
    }

    private static int within(int value, int least, int most) {
        return Math.max(least, Math.min(most, value));
    }

    /** Of what is not below 0; MARKS, R and their like are never below 1, but a divisor is looked at. */
    private static int through(int value, int by) {
        return by < 1 ? 0 : value / by;
    }

    /** Never below 0, of what is below 0, too. */
    private static int modulo(int value, int by) {
        int rest = by < 1 ? 0 : value % by;
        return rest < 0 ? rest + by : rest;
    }

    /** How many there were, and the first of them. */
    private static final class Tally {
        private int many;
        private int first = NOT_ANY;

        void begin() {
            many = 0;
            first = NOT_ANY;
        }

        void add(int which) {
            if (many == 0) {
                first = which;
            }
            many++;
        }

        int many() {
            return many;
        }

        int first() {
            return first;
        }

        int answer(int what) {
            return what == 0 ? many : first;
        }
    }

    /** The bytes that were fed. */
    private static final class Tape {
        private final int[] bytes = new int[TAPE_BYTES];
        private int length;

        int size() {
            return length;
        }

        boolean has(int n) {
            return n <= length;
        }

        boolean hasRoom(int n) {
            return length + n <= TAPE_BYTES;
        }

        void add(int four) {
            for (int shift = 24; shift >= 0 && length < TAPE_BYTES; shift -= 8) {
                bytes[length] = (four >> shift) & 255;
                length++;
            }
        }

        int at(int place) {
            return place >= 0 && place < length ? bytes[place] : NONE;
        }

        void empty() {
            length = 0;
        }
    }

    /** Goes through the first bytes of the tape; behind a FAULT it sees nothing more. */
    private static final class Reader {
        static final int CANNOT_STAND = 1;
        static final int DIGIT_TOO_MANY = 2;
        static final int NO_TIME = 3;
        static final int TOO_MANY = 4;
        static final int TOO_DEEP = 5;
        static final int SAME_CLOCK = 6;

        private final Tape tape;
        private int end;
        private int place;
        private int fault;

        Reader(Tape tape) {
            this.tape = tape;
        }

        void begin(int n) {
            end = n;
            place = 0;
            fault = 0;
        }

        int place() {
            return place;
        }

        /** The sign that comes next, or NONE at the end and behind a FAULT. */
        int next() {
            return fault == 0 && place < end && place < TAPE_BYTES ? tape.bytes[place] : NONE;
        }

        void skip() {
            place++;
        }

        boolean take(int sign) {
            if (next() != sign) {
                return false;
            }
            place++;
            return true;
        }

        void expect(int sign) {
            if (next() == sign) {
                place++;
            } else {
                fail(CANNOT_STAND, place);
            }
        }

        /** Only the first FAULT counts. */
        void fail(int number, int at) {
            if (fault == 0) {
                fault = -1000 * number - at;
            }
        }

        /** The CLOCK whose letter comes next, which is not yet taken; else a FAULT and NONE. */
        int clockLetter() {
            int sign = next();
            if (sign < 'a' || sign > 'h') {
                fail(CANNOT_STAND, place);
                return NONE;
            }
            return sign - 'a';
        }

        int number(int mostDigits) {
            int value = 0;
            for (int many = 0; many <= mostDigits; many++) {
                int sign = next();
                boolean digit = sign >= '0' && sign <= '9';
                if (!digit && many == 0) {
                    fail(CANNOT_STAND, place);
                }
                if (!digit) {
                    return value;
                }
                if (many == mostDigits) {
                    fail(DIGIT_TOO_MANY, place);
                    return 0;
                }
                value = 10 * value + sign - '0';
                place++;
            }
            return value;
        }

        int time(Dial dial) {
            int from = place;
            int value = number(4);
            if (!dial.isTime(value)) {
                fail(NO_TIME, from);
            }
            return value;
        }

        /** Nothing may stand behind the text; so many, or the FAULT. */
        int answer(int many) {
            if (fault == 0 && place < end) {
                fail(CANNOT_STAND, place);
            }
            return fault == 0 ? many : fault;
        }
    }

    /** THE DIAL: where the hands are at a TIME, and at which TIMES they are at two MARKS. */
    private static final class Dial {
        /** As many TIMES LOOK ALIKE at most (D 4, R 24: six with the SHORT hand at either MARK). */
        static final int MOST_ALIKE = 12;

        private int marks = 60;
        private int turns = 12;

        void make(int newMarks, int newTurns) {
            marks = newMarks;
            turns = newTurns;
        }

        int round() {
            return marks * turns;
        }

        boolean isTime(int time) {
            return time >= 0 && time < marks * turns;
        }

        int around(int time) {
            return modulo(time, marks * turns);
        }

        int shortAt(int time) {
            return through(time, turns);
        }

        int longAt(int time) {
            return modulo(time, marks);
        }

        int mirrored(int mark) {
            return mark == 0 ? 0 : marks - mark;
        }

        /** From a TIME to another one, the shorter way round. */
        int between(int one, int other) {
            int round = marks * turns;
            int way = modulo(one - other, round);
            return Math.min(way, round - way);
        }

        int apartAt(int time) {
            int way = modulo(longAt(time) - shortAt(time), marks);
            return Math.min(way, marks - way);
        }

        boolean areAlike(int one, int other) {
            return isAt(other, shortAt(one), longAt(one));
        }

        boolean isAt(int time, int mark, int otherMark) {
            int small = shortAt(time);
            int large = longAt(time);
            return (small == mark && large == otherMark) || (small == otherMark && large == mark);
        }

        /** The lowest TIME with the hands just there. */
        int lowest(int shortMark, int longMark) {
            int from = shortMark * turns;
            int time = from + modulo(longMark - from, marks);
            return time < from + turns ? time : NOT_ANY;
        }

        /** The lowest TIME with the hands there, whichever at which. */
        int lowestAt(int mark, int otherMark) {
            int time = lowest(mark, otherMark);
            int swapped = lowest(otherMark, mark);
            return time < 0 || swapped < 0 ? Math.max(time, swapped) : Math.min(time, swapped);
        }

        private int manyAt(int shortMark, int longMark) {
            int time = lowest(shortMark, longMark);
            int last = (shortMark + 1) * turns - 1;
            return time < 0 ? 0 : 1 + through(last - time, marks);
        }

        int alikeMany(int time) {
            int small = shortAt(time);
            int large = longAt(time);
            int many = manyAt(small, large);
            return small == large ? many : many + manyAt(large, small);
        }

        boolean canBeTold(int time) {
            return alikeMany(time) == 1;
        }

        int untoldMany() {
            int many = 0;
            int all = round();
            for (int time = 0; time < all; time++) {
                if (!canBeTold(time)) {
                    many++;
                }
            }
            return many;
        }

        /** Puts the TIMES with the hands there, whichever at which, from a place of a row on: how many. */
        int list(int mark, int otherMark, int[] row, int from) {
            int many = listOrdered(mark, otherMark, row, from);
            if (mark != otherMark) {
                many += listOrdered(otherMark, mark, row, from + many);
            }
            return many;
        }

        private int listOrdered(int shortMark, int longMark, int[] row, int from) {
            int many = 0;
            int time = lowest(shortMark, longMark);
            int end = (shortMark + 1) * turns;
            while (time >= 0 && time < end && from + many < row.length) {
                row[from + many] = time;
                time += marks;
                many++;
            }
            return many;
        }
    }

    /** What can be seen at the TIMES of a DIAL. */
    private static final class Looks {
        private final Dial dial;
        private final int[] alikes = new int[Dial.MOST_ALIKE];

        Looks(Dial dial) {
            this.dial = dial;
        }

        private int listAlikes(int time) {
            return dial.list(dial.shortAt(time), dial.longAt(time), alikes, 0);
        }

        int nextAlike(int time) {
            int many = listAlikes(time);
            int nearest = dial.round();
            for (int i = 0; i < many; i++) {
                // itself is a whole round behind itself, so it wins only if it is alone
                nearest = Math.min(nearest, 1 + dial.around(alikes[i] - time - 1));
            }
            return dial.around(time + nearest);
        }

        int mirrorOf(int time) {
            return dial.lowestAt(dial.mirrored(dial.shortAt(time)), dial.mirrored(dial.longAt(time)));
        }

        int mirroredMany(boolean likeThemselves) {
            int many = 0;
            int round = dial.round();
            for (int time = 0; time < round; time++) {
                if (likeThemselves ? isOwnMirror(time) : mirrorOf(time) >= 0) {
                    many++;
                }
            }
            return many;
        }

        private boolean isOwnMirror(int time) {
            return dial.isAt(time, dial.mirrored(dial.shortAt(time)), dial.mirrored(dial.longAt(time)));
        }

        int firstUntold() {
            int round = dial.round();
            for (int time = 0; time < round; time++) {
                if (!dial.canBeTold(time)) {
                    return time;
                }
            }
            return NOT_ANY;
        }

        int longestRow(boolean told) {
            int round = dial.round();
            int longest = 0;
            int row = 0;
            // twice round, so that a row across 0 is seen whole
            for (int i = 0; i < 2 * round; i++) {
                row = dial.canBeTold(dial.around(i)) == told ? row + 1 : 0;
                longest = Math.max(longest, row);
            }
            return Math.min(longest, round);
        }

        int ticksTillTold(int time) {
            int round = dial.round();
            for (int ticks = 0; ticks < round; ticks++) {
                if (dial.canBeTold(dial.around(time + ticks))) {
                    return ticks;
                }
            }
            return NOT_ANY;
        }

        int secondGlance(int time) {
            int many = listAlikes(time);
            int round = dial.round();
            for (int ticks = 1; ticks < round; ticks++) {
                if (tellsBehind(time, ticks, many)) {
                    return ticks;
                }
            }
            return NOT_ANY;
        }

        private boolean tellsBehind(int time, int ticks, int many) {
            int later = dial.around(time + ticks);
            for (int i = 0; i < many; i++) {
                int other = dial.around(alikes[i] + ticks);
                if (other != later && dial.areAlike(later, other)) {
                    return false;
                }
            }
            return true;
        }

        int nextCovered(int time) {
            int round = dial.round();
            for (int ticks = 0; ticks < round; ticks++) {
                int later = dial.around(time + ticks);
                if (dial.apartAt(later) == 0) {
                    return later;
                }
            }
            return NOT_ANY;
        }

        int apartMany(int marks) {
            int many = 0;
            int round = dial.round();
            for (int time = 0; time < round; time++) {
                if (dial.apartAt(time) == marks) {
                    many++;
                }
            }
            return many;
        }
    }

    /** STRIKES: they are numbered round, 0 the one at TIME 0. */
    private static final class Bells {
        private final Dial dial;

        Bells(Dial dial) {
            this.dial = dial;
        }

        private int strikesMany(boolean halves) {
            return halves ? 2 * dial.turns : dial.turns;
        }

        int timeOf(int strike, boolean halves) {
            int which = modulo(strike, strikesMany(halves));
            if (!halves) {
                return which * dial.marks;
            }
            return which / 2 * dial.marks + which % 2 * (dial.marks / 2);
        }

        int strokesAt(int time, boolean halves) {
            int hour = through(time, dial.marks);
            int behind = time - hour * dial.marks;
            if (behind == 0) {
                return hour == 0 ? dial.turns : hour;
            }
            return halves && behind == dial.marks / 2 ? 1 : 0;
        }

        private int strokesOf(int strike, boolean halves) {
            return strokesAt(timeOf(strike, halves), halves);
        }

        int strokesBetween(int from, int to, boolean halves) {
            int strokes = 0;
            for (int time = from; time <= to; time++) {
                strokes += strokesAt(time, halves);
            }
            return strokes;
        }

        int longestQuiet(boolean halves) {
            int longest = 0;
            int many = strikesMany(halves);
            for (int i = 0; i < many; i++) {
                int ticks = timeOf(i + 1, halves) - timeOf(i, halves);
                longest = Math.max(longest, dial.around(ticks));
            }
            return longest;
        }

        int ticksTillHeard(int time, int many, boolean halves) {
            int round = dial.round();
            int inRound = strokesBetween(0, round - 1, halves);
            // whole rounds are the same from wherever they begin, so only the rest is walked
            int rounds = through(many - 1, inRound);
            int rest = many - rounds * inRound;
            int heard = 0;
            for (int ticks = 0; ticks < round; ticks++) {
                heard += strokesAt(dial.around(time + ticks), halves);
                if (heard >= rest) {
                    return rounds * round + ticks;
                }
            }
            return NOT_ANY;
        }

        /** Tallies which strikes can be the first of those on the tape. */
        void match(Tape tape, int n, boolean halves, Tally tally) {
            tally.begin();
            int many = strikesMany(halves);
            for (int first = 0; first < many; first++) {
                boolean same = true;
                for (int i = 0; i < n && same; i++) {
                    same = tape.at(i) == strokesOf(first + i, halves);
                }
                if (same) {
                    tally.add(first);
                }
            }
        }

        int enoughStrikes(boolean halves) {
            int many = strikesMany(halves);
            for (int n = 1; n < many; n++) {
                if (allUnlike(n, halves)) {
                    return n;
                }
            }
            return many;
        }

        private boolean allUnlike(int n, boolean halves) {
            int many = strikesMany(halves);
            for (int one = 0; one < many; one++) {
                for (int other = one + 1; other < many; other++) {
                    if (soundSame(one, other, n, halves)) {
                        return false;
                    }
                }
            }
            return true;
        }

        private boolean soundSame(int one, int other, int n, boolean halves) {
            for (int i = 0; i < n; i++) {
                if (strokesOf(one + i, halves) != strokesOf(other + i, halves)) {
                    return false;
                }
            }
            return true;
        }

        int bothStrike(int later, boolean halves) {
            int many = strikesMany(halves);
            int both = 0;
            for (int i = 0; i < many; i++) {
                if (strokesAt(dial.around(timeOf(i, halves) - later), halves) > 0) {
                    both++;
                }
            }
            return both;
        }

        int loudest(int later, boolean halves) {
            int round = dial.round();
            int loudest = 0;
            for (int time = 0; time < round; time++) {
                int strokes = strokesAt(time, halves) + strokesAt(dial.around(time - later), halves);
                loudest = Math.max(loudest, strokes);
            }
            return loudest;
        }
    }

    /** Photographs, each with the TIMES at which it can have been taken. */
    private static final class Album {
        static final int IN_ROW = 8;
        static final int UNORDERED = 6;
        private static final int WIDE = Dial.MOST_ALIKE;
        private static final long MOST_ROWS = 1000000000L;

        private final Dial dial;
        private final int[] times = new int[IN_ROW * WIDE];
        private final int[] many = new int[IN_ROW];
        private final long[] till = new long[IN_ROW * WIDE];
        private final long[] since = new long[IN_ROW * WIDE];
        /** By which photographs are in a row (bits), which of them is its first, which TIME that has. */
        private final long[] orders = new long[(1 << UNORDERED) * UNORDERED * WIDE];
        private int size;
        private int least;
        private int most;

        Album(Dial dial) {
            this.dial = dial;
        }

        /** False: one shows a MARK there is not. */
        boolean take(Tape tape, int n, int leastTicks, int mostTicks) {
            size = Math.min(n, IN_ROW);
            least = leastTicks;
            most = mostTicks;
            for (int i = 0; i < 2 * size; i++) {
                if (tape.at(i) < 0 || tape.at(i) >= dial.marks) {
                    return false;
                }
            }
            for (int i = 0; i < size; i++) {
                int listed = dial.list(tape.at(2 * i), tape.at(2 * i + 1), times, i * WIDE);
                many[i] = Math.min(listed, WIDE);
            }
            return true;
        }

        /** Whether a number of TICKS from least to most leads from a TIME to another one. */
        private boolean follows(int time, int later) {
            return least + dial.around(later - time - least) <= most;
        }

        private void countTill() {
            for (int i = 0; i < size; i++) {
                for (int c = 0; c < many[i]; c++) {
                    long ways = i == 0 ? 1 : 0;
                    for (int b = 0; i > 0 && b < many[i - 1]; b++) {
                        if (follows(times[(i - 1) * WIDE + b], times[i * WIDE + c])) {
                            ways += till[(i - 1) * WIDE + b];
                        }
                    }
                    till[i * WIDE + c] = ways;
                }
            }
        }

        private void countSince() {
            for (int i = size - 1; i >= 0; i--) {
                for (int c = 0; c < many[i]; c++) {
                    long ways = i == size - 1 ? 1 : 0;
                    for (int b = 0; i < size - 1 && b < many[i + 1]; b++) {
                        if (follows(times[i * WIDE + c], times[(i + 1) * WIDE + b])) {
                            ways += since[(i + 1) * WIDE + b];
                        }
                    }
                    since[i * WIDE + c] = ways;
                }
            }
        }

        int rowsMany() {
            countSince();
            long ways = 0;
            for (int c = 0; size > 0 && c < many[0]; c++) {
                ways += since[c];
            }
            return (int) Math.min(ways, MOST_ROWS);
        }

        int sureTime(int which) {
            countTill();
            countSince();
            int sure = CANNOT_BE;
            for (int c = 0; which >= 0 && which < size && c < many[which]; c++) {
                int at = which * WIDE + c;
                if (till[at] > 0 && since[at] > 0) {
                    sure = sure == CANNOT_BE ? times[at] : NOT_ANY;
                }
            }
            return sure;
        }

        private static int orderPlace(int members, int first, int c) {
            return (members * UNORDERED + first) * WIDE + c;
        }

        /** Rows of fewer photographs come first: a set's number is above those of its parts. */
        void countOrders() {
            size = Math.min(size, UNORDERED);
            for (int members = 1; members < 1 << size; members++) {
                for (int first = 0; first < size; first++) {
                    if ((members >> first & 1) == 1) {
                        countOrdersFrom(members, first);
                    }
                }
            }
        }

        private void countOrdersFrom(int members, int first) {
            int others = members ^ 1 << first;
            for (int c = 0; c < many[first]; c++) {
                int time = times[first * WIDE + c];
                long ways = others == 0 ? 1 : 0;
                for (int second = 0; second < size; second++) {
                    if ((others >> second & 1) == 1) {
                        ways += ordersBehind(time, others, second);
                    }
                }
                orders[orderPlace(members, first, c)] = ways;
            }
        }

        private long ordersBehind(int time, int members, int first) {
            long ways = 0;
            for (int c = 0; c < many[first]; c++) {
                if (follows(time, times[first * WIDE + c])) {
                    ways += orders[orderPlace(members, first, c)];
                }
            }
            return ways;
        }

        private long ordersFrom(int first) {
            long ways = 0;
            for (int c = 0; c < many[first]; c++) {
                ways += orders[orderPlace((1 << size) - 1, first, c)];
            }
            return ways;
        }

        int ordersMany() {
            long ways = 0;
            for (int first = 0; first < size; first++) {
                ways += ordersFrom(first);
            }
            return (int) Math.min(ways, MOST_ROWS);
        }

        int canBeFirst() {
            int bits = 0;
            for (int first = 0; first < size; first++) {
                if (ordersFrom(first) > 0) {
                    bits |= 1 << first;
                }
            }
            return bits;
        }
    }

    /** The CLOCKS, THE DAY and X: what is KEPT and tried. */
    private static final class Clocks {
        private final Dial dial;
        private final boolean[] told = new boolean[CLOCKS];
        private final int[] ahead = new int[CLOCKS];
        private final int[] gain = new int[CLOCKS];
        private final int[] sets = new int[CLOCKS];
        private int day;
        private int drawn = 1;

        Clocks(Dial dial) {
            this.dial = dial;
        }

        void forget() {
            for (int clock = 0; clock < CLOCKS; clock++) {
                told[clock] = false;
            }
        }

        private void copyClock(int clock, Clocks from) {
            told[clock] = from.told[clock];
            ahead[clock] = from.ahead[clock];
            gain[clock] = from.gain[clock];
            sets[clock] = from.sets[clock];
        }

        void copyClocks(Clocks from) {
            for (int clock = 0; clock < CLOCKS; clock++) {
                copyClock(clock, from);
            }
        }

        void copyAll(Clocks from) {
            copyClocks(from);
            day = from.day;
            drawn = from.drawn;
        }

        void restore(Clocks from) {
            for (int clock = 0; clock < CLOCKS; clock++) {
                if (from.told[clock]) {
                    copyClock(clock, from);
                }
            }
            day = from.day;
            drawn = from.drawn;
        }

        /** Reads CLOCKS as a TEXT in place of all: how many, or the FAULT. */
        int read(Reader in) {
            forget();
            int many = 0;
            boolean more = true;
            // a ninth LINE can only tell a CLOCK twice
            for (int i = 0; i <= CLOCKS && more; i++) {
                int clock = in.clockLetter();
                if (isTold(clock)) {
                    in.fail(Reader.SAME_CLOCK, in.place());
                } else if (clock >= 0) {
                    in.skip();
                    readLine(in, clock);
                    many++;
                }
                more = in.take(';');
            }
            return in.answer(many);
        }

        private void readLine(Reader in, int clock) {
            in.expect('@');
            told[clock] = true;
            ahead[clock] = in.time(dial);
            gain[clock] = 0;
            sets[clock] = 0;
            if (in.take('+')) {
                gain[clock] = in.number(2);
            } else if (in.take('-')) {
                gain[clock] = -in.number(2);
            }
        }

        boolean isTold(int clock) {
            return clock >= 0 && clock < CLOCKS && told[clock];
        }

        boolean areTwo(int one, int other) {
            return one != other && isTold(one) && isTold(other);
        }

        int toldBits() {
            int bits = 0;
            for (int clock = 0; clock < CLOCKS; clock++) {
                if (told[clock]) {
                    bits |= 1 << clock;
                }
            }
            return bits;
        }

        int setsOfAll() {
            int all = 0;
            for (int clock = 0; clock < CLOCKS; clock++) {
                if (told[clock]) {
                    all += sets[clock];
                }
            }
            return all;
        }

        int checkByte(int clock) {
            return isTold(clock) ? ahead[clock] & 255 : 255;
        }

        void setTo(int clock, int newAhead) {
            ahead[clock] = newAhead;
            sets[clock] = Math.min(sets[clock] + 1, MOST_SET);
        }

        int draw() {
            drawn = (25173 * drawn + 13849) & 65535;
            return drawn % 10;
        }

        /** What the letters of THE LAW stand for, in the order of Law.FACTS. */
        void lookAt(int clock, int draw, int[] facts) {
            facts[0] = clock;
            facts[1] = ahead[clock];
            facts[2] = gain[clock] + MOST_GAIN;
            facts[3] = sets[clock];
            facts[4] = othersAsMuchAhead(clock);
            facts[5] = dial.between(ahead[clock], 0);
            facts[6] = day % 100;
            facts[7] = draw;
        }

        private int othersAsMuchAhead(int clock) {
            int many = 0;
            for (int other = 0; other < CLOCKS; other++) {
                if (other != clock && told[other] && ahead[other] == ahead[clock]) {
                    many++;
                }
            }
            return many;
        }

        int showsAt(int clock, int tick) {
            return dial.around(ahead[clock] + tick + Math.floorDiv(tick * gain[clock], 1000));
        }

        int offBy(int clock, int tick) {
            return dial.between(showsAt(clock, tick), tick);
        }

        private boolean showSame(int one, int other, boolean alike, int tick) {
            int shown = showsAt(one, tick);
            int otherShown = showsAt(other, tick);
            return alike ? dial.areAlike(shown, otherShown) : shown == otherShown;
        }

        void tallyRight(int clock, Tally tally) {
            tally.begin();
            int round = dial.round();
            for (int tick = 0; tick < round; tick++) {
                if (showsAt(clock, tick) == tick) {
                    tally.add(tick);
                }
            }
        }

        void tallyAgreed(int one, int other, boolean alike, Tally tally) {
            tally.begin();
            int round = dial.round();
            for (int tick = 0; tick < round; tick++) {
                if (showSame(one, other, alike, tick)) {
                    tally.add(tick);
                }
            }
        }

        int longestAgreed(int one, int other) {
            int longest = 0;
            int row = 0;
            int round = dial.round();
            for (int tick = 0; tick < round; tick++) {
                row = showSame(one, other, false, tick) ? row + 1 : 0;
                longest = Math.max(longest, row);
            }
            return longest;
        }

        void tallyAllSame(Tally tally) {
            tally.begin();
            int round = dial.round();
            for (int tick = 0; tick < round; tick++) {
                if (allSame(tick)) {
                    tally.add(tick);
                }
            }
        }

        private boolean allSame(int tick) {
            int shown = NOT_ANY;
            for (int clock = 0; clock < CLOCKS; clock++) {
                if (told[clock]) {
                    int time = showsAt(clock, tick);
                    if (shown != NOT_ANY && shown != time) {
                        return false;
                    }
                    shown = time;
                }
            }
            return true;
        }

        int nearestTo(int tick) {
            int nearest = NOT_ANY;
            int least = 0;
            for (int clock = 0; clock < CLOCKS; clock++) {
                if (told[clock]) {
                    int off = offBy(clock, tick);
                    if (nearest < 0 || off < least) {
                        nearest = clock;
                        least = off;
                    }
                }
            }
            return nearest;
        }

        int showingSame(int clock, int tick) {
            int many = 0;
            int shown = showsAt(clock, tick);
            for (int other = 0; other < CLOCKS; other++) {
                if (told[other] && showsAt(other, tick) == shown) {
                    many++;
                }
            }
            return many;
        }

        /** A CLOCK that SHOWS what most do (of like ones the lowest TIME). */
        int oneOfMost(int tick) {
            int best = NOT_ANY;
            int most = 0;
            for (int clock = 0; clock < CLOCKS; clock++) {
                int many = told[clock] ? showingSame(clock, tick) : 0;
                boolean earlier = many > 0 && many == most && showsAt(clock, tick) < showsAt(best, tick);
                if (many > most || earlier) {
                    best = clock;
                    most = many;
                }
            }
            return best;
        }

        int pairsMany(int tick, boolean alike) {
            int many = 0;
            for (int one = 0; one < CLOCKS; one++) {
                for (int other = one + 1; other < CLOCKS; other++) {
                    if (told[one] && told[other] && showSame(one, other, alike, tick)) {
                        many++;
                    }
                }
            }
            return many;
        }

        /** The least that reaches from what a CLOCK SHOWS onward to what all others do. */
        int narrowest(int tick) {
            int narrowest = dial.round();
            boolean any = false;
            for (int clock = 0; clock < CLOCKS; clock++) {
                if (told[clock]) {
                    narrowest = Math.min(narrowest, reach(showsAt(clock, tick), tick));
                    any = true;
                }
            }
            return any ? narrowest : 0;
        }

        private int reach(int from, int tick) {
            int farthest = 0;
            for (int clock = 0; clock < CLOCKS; clock++) {
                if (told[clock]) {
                    farthest = Math.max(farthest, dial.around(showsAt(clock, tick) - from));
                }
            }
            return farthest;
        }

        /** The first TICK at which a CLOCK SHOWS a TIME. */
        int firstTick(int clock, int time) {
            if (!isTold(clock)) {
                return NOT_ANY;
            }
            int round = dial.round();
            for (int tick = 0; tick < round; tick++) {
                if (showsAt(clock, tick) == time) {
                    return tick;
                }
            }
            return NOT_ANY;
        }

        /** Likewise of all TIMES at once. */
        void firstTicks(int clock, int[] row) {
            int round = Math.min(dial.round(), row.length);
            for (int time = 0; time < round; time++) {
                row[time] = NOT_ANY;
            }
            for (int tick = round - 1; tick >= 0; tick--) {
                int time = showsAt(clock, tick);
                if (time < row.length) {
                    row[time] = tick;
                }
            }
        }
    }

    /** A BOOK of APPOINTMENTS. */
    private static final class Book {
        private static final int MOST = 16;

        private final Dial dial;
        private final int[] one = new int[MOST];
        private final int[] other = new int[MOST];
        private final int[] time = new int[MOST];
        private final int[] ticks = new int[MOST];
        private int size;

        Book(Dial dial) {
            this.dial = dial;
        }

        void forget() {
            size = 0;
        }

        boolean has(int i) {
            return i >= 0 && i < size;
        }

        /** Reads a BOOK as a TEXT in place of all: how many APPOINTMENTS, or the FAULT. */
        int read(Reader in) {
            size = 0;
            boolean more = true;
            for (int i = 0; i <= MOST && more; i++) {
                int clock = in.clockLetter();
                if (clock >= 0 && i == MOST) {
                    in.fail(Reader.TOO_MANY, in.place());
                } else if (clock >= 0) {
                    in.skip();
                    one[i] = clock;
                    readRest(in, i);
                    size++;
                }
                more = in.take(';');
            }
            return in.answer(size);
        }

        private void readRest(Reader in, int i) {
            other[i] = in.clockLetter();
            if (other[i] == one[i]) {
                in.fail(Reader.SAME_CLOCK, in.place());
            }
            in.skip();
            in.expect('@');
            time[i] = in.time(dial);
            in.expect(':');
            ticks[i] = in.number(2);
        }

        static boolean doMeet(int there, int otherThere, int ticks) {
            return there >= 0 && otherThere >= 0 && Math.abs(there - otherThere) <= ticks;
        }

        boolean meets(int i, Clocks clocks) {
            int there = clocks.firstTick(one[i], time[i]);
            return doMeet(there, clocks.firstTick(other[i], time[i]), ticks[i]);
        }

        int waited(int i, Clocks clocks) {
            int there = clocks.firstTick(one[i], time[i]);
            int otherThere = clocks.firstTick(other[i], time[i]);
            if (there < 0 && otherThere < 0) {
                return 0;
            }
            if (there < 0 || otherThere < 0) {
                return ticks[i];
            }
            return Math.min(Math.abs(there - otherThere), ticks[i]);
        }

        int meetMany(Clocks clocks) {
            int many = 0;
            for (int i = 0; i < size; i++) {
                if (meets(i, clocks)) {
                    many++;
                }
            }
            return many;
        }

        int waitedInAll(Clocks clocks) {
            int all = 0;
            for (int i = 0; i < size; i++) {
                all += waited(i, clocks);
            }
            return all;
        }
    }

    /**
     * THE LAW, read into steps that work on a pile of numbers: a number or a fact is put on it, a sign
     * works on the upper two. The step of an & leaps to the end of its PART if a TEST does not hold,
     * that of a | to the end of the C if a PART does: so no more is asked than matters.
     */
    private static final class Law {
        static final String FACTS = "cavknotw";
        private static final String KINDS = "glsx";
        private static final int MOST_RULES = 16;
        private static final int MOST_OPEN = 6;
        private static final int PILE = 40;
        private static final int NUMBER = '#';
        private static final int FACT = '$';
        private static final int END = '.';

        private final int[] signs = new int[LAW_BYTES + 2 * MOST_RULES];
        private final int[] operands = new int[LAW_BYTES + 2 * MOST_RULES];
        private final int[] kinds = new int[MOST_RULES];
        private final int[] valueFrom = new int[MOST_RULES];
        private final int[] conditionFrom = new int[MOST_RULES];
        private final int[] pile = new int[PILE];
        private int steps;
        private int size;
        private boolean refused;

        int size() {
            return size;
        }

        /** Reads THE LAW as a TEXT in place of all: how many RULES, or the FAULT. */
        int read(Reader in) {
            steps = 0;
            size = 0;
            boolean more = true;
            for (int i = 0; i <= MOST_RULES && more; i++) {
                int kind = in.next();
                if (kind < 0 || KINDS.indexOf((char) kind) < 0) {
                    in.fail(Reader.CANNOT_STAND, in.place());
                } else if (i == MOST_RULES) {
                    in.fail(Reader.TOO_MANY, in.place());
                } else {
                    in.skip();
                    kinds[i] = kind;
                    valueFrom[i] = steps;
                    if (kind != 'x') {
                        readExpression(in, 0);
                        addStep(END, 0);
                    }
                    conditionFrom[i] = steps;
                    in.expect('(');
                    readCondition(in, 1);
                    in.expect(')');
                    addStep(END, 0);
                    size++;
                }
                more = in.take(';');
            }
            return in.answer(size);
        }

        private int addStep(int sign, int operand) {
            int at = steps;
            if (at < signs.length) {
                signs[at] = sign;
                operands[at] = operand;
                steps++;
            }
            return at;
        }

        /** Leaps that wait for their goal name the one before in place of it, the first one NONE. */
        private void land(int lastLeap) {
            int leap = lastLeap;
            for (int i = 0; i < LAW_BYTES && leap >= 0 && leap < steps; i++) {
                int before = operands[leap];
                operands[leap] = steps;
                leap = before;
            }
        }

        private void readCondition(Reader in, int open) {
            int fails = NONE;
            int holds = NONE;
            readTest(in, open);
            for (int i = 0; i < LAW_BYTES; i++) {
                if (in.take('&')) {
                    fails = addStep('&', fails);
                } else if (in.take('|')) {
                    land(fails);
                    fails = NONE;
                    holds = addStep('|', holds);
                } else {
                    break;
                }
                readTest(in, open);
            }
            land(fails);
            land(holds);
        }

        private void readTest(Reader in, int open) {
            int sign = in.next();
            if ((sign == '!' || sign == '(') && open >= MOST_OPEN) {
                in.fail(Reader.TOO_DEEP, in.place());
            } else if (in.take('!')) {
                readTest(in, open + 1);
                addStep('!', 0);
            } else if (in.take('(')) {
                readCondition(in, open + 1);
                in.expect(')');
            } else {
                readExpression(in, open);
                int than = in.next();
                if (!in.take('<') && !in.take('>')) {
                    in.expect('=');
                }
                readExpression(in, open);
                addStep(than, 0);
            }
        }

        private void readExpression(Reader in, int open) {
            int waiting = NONE;
            readFactor(in, open);
            for (int i = 0; i < LAW_BYTES; i++) {
                int sign = in.next();
                if (in.take('*') || in.take('/') || in.take('%')) {
                    readFactor(in, open);
                    addStep(sign, 0);
                } else if (in.take('+') || in.take('-')) {
                    // a + or - works when the TERM behind it has ended
                    if (waiting >= 0) {
                        addStep(waiting, 0);
                    }
                    waiting = sign;
                    readFactor(in, open);
                } else {
                    break;
                }
            }
            if (waiting >= 0) {
                addStep(waiting, 0);
            }
        }

        private void readFactor(Reader in, int open) {
            int sign = in.next();
            int fact = sign < 0 ? NONE : FACTS.indexOf((char) sign);
            if (sign == '[' && open >= MOST_OPEN) {
                in.fail(Reader.TOO_DEEP, in.place());
            } else if (in.take('[')) {
                readExpression(in, open + 1);
                in.expect(']');
            } else if (fact >= 0) {
                in.skip();
                addStep(FACT, fact);
            } else {
                addStep(NUMBER, in.number(5));
            }
        }

        /** The E of the first RULE of a kind whose C holds, from 0 to a bound; 0 if there is none. */
        int valueOf(int kind, int most, int[] facts) {
            for (int i = 0; i < size; i++) {
                if (kinds[i] == kind && work(conditionFrom[i], facts) != 0) {
                    return within(work(valueFrom[i], facts), 0, most);
                }
            }
            return 0;
        }

        boolean anyHolds(int kind, int[] facts) {
            for (int i = 0; i < size; i++) {
                if (kinds[i] == kind && work(conditionFrom[i], facts) != 0) {
                    return true;
                }
            }
            return false;
        }

        /** What an E or a C comes to (it holds: 1); 0 if it is REFUSED. Leaps only lead onward. */
        private int work(int from, int[] facts) {
            refused = false;
            int high = 0;
            for (int at = from; at < steps && signs[at] != END && !refused; at++) {
                int sign = signs[at];
                if (sign == NUMBER || sign == FACT) {
                    refused = high >= PILE;
                    if (!refused) {
                        pile[high] = sign == NUMBER ? operands[at] : factAt(facts, operands[at]);
                        high++;
                    }
                } else if (high < 1) {
                    refused = true;
                } else if (sign == '!') {
                    pile[high - 1] = 1 - pile[high - 1];
                } else if (sign == '&' || sign == '|') {
                    boolean settled = (pile[high - 1] != 0) == (sign == '|');
                    if (settled) {
                        at = Math.max(at, operands[at] - 1);
                    } else {
                        high--;
                    }
                } else if (high < 2) {
                    refused = true;
                } else {
                    high--;
                    pile[high - 1] = reckon(sign, pile[high - 1], pile[high]);
                }
            }
            return refused || high < 1 ? 0 : pile[0];
        }

        private static int factAt(int[] facts, int which) {
            return which >= 0 && which < facts.length ? facts[which] : 0;
        }

        private int reckon(int sign, int one, int other) {
            switch (sign) {
                case '+':
                    return one + other;
                case '-':
                    return one - other;
                case '*':
                    return one * other;
                case '<':
                    return one < other ? 1 : 0;
                case '>':
                    return one > other ? 1 : 0;
                case '=':
                    return one == other ? 1 : 0;
                default:
                    break;
            }
            if (other == 0) {
                refused = true;
                return 0;
            }
            return sign == '/' ? one / other : one % other;
        }
    }
}
