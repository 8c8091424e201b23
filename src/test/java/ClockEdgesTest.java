/**
 * Promises 25 to 45 and THE DAY of the Terms: a check of its own for each sentence of the document that
 * names an edge (too small, too large, empty, full, round, refused). Answers are worked out by hand.
 */
public final class ClockEdgesTest {
    private static final int LOW = Integer.MIN_VALUE;
    private static final int HIGH = Integer.MAX_VALUE;
    private static final int[] NO_TWOFOLD = {LOW, -1, 2, HIGH};
    private static final int[] NO_DAYS = {LOW, -1, 0, 101, HIGH};
    private static final Due DUE = new Due();

    public static void main(String[] args) {
        promise25();
        promise26();
        twoClocksOfEachCall();
        promise27();
        promise28();
        promise29();
        promise30();
        promise31();
        promise32();
        promise33();
        promise34();
        promise35();
        promise36();
        promise36Waits();
        promise37();
        promise38();
        promise38LastDay();
        theBoundsOfTheLaw();
        theGainOfADay();
        theWayOfADay();
        setAtItsMost();
        askedBefore();
        promise39();
        promise40();
        promise41();
        promise42And43();
        promise44();
        promise45();
        DUE.end("ClockEdgesTest");
    }

    private static HandsAlike town(String clocks) {
        HandsAlike town = new HandsAlike();
        Due.clocks(town, clocks);
        return town;
    }

    private static HandsAlike town(int marks, int turns, String clocks) {
        HandsAlike town = new HandsAlike();
        town.dial(marks, turns);
        Due.clocks(town, clocks);
        return town;
    }

    private static void promise25() {
        HandsAlike town = town("a@719+99;d@0-1;h@719-99");
        int[] noClock = {LOW, -1, 1, 8, HIGH};
        for (int clock : noClock) {
            DUE.is("25: no such CLOCK " + clock, town.shows(clock, 0), -1);
        }
        int[] noTick = {LOW, -1, 720, HIGH};
        for (int tick : noTick) {
            DUE.is("25: no such TICK " + tick, town.shows(0, tick), -1);
        }
        DUE.is("25: TICK 0", town.shows(0, 0), 719);
        DUE.is("25: round", town.shows(0, 1), 0);
        // 719 times 99 are 71181
        DUE.is("25: the last TICK, the most GAIN", town.shows(0, 719), 719 + 719 + 71 - 2 * 720);
        DUE.is("25: the last TICK, the least GAIN, down", town.shows(7, 719), 719 + 719 - 72 - 720);
        DUE.is("25: rounded down, TICK 0", town.shows(3, 0), 0);
        DUE.is("25: rounded down, below 0, too", town.shows(3, 1), 0);
        DUE.is("25: and on", town.shows(3, 719), 718);
        HandsAlike large = town(60, 24, "a@1439+99;b@0-99");
        // 1439 times 99 are 142461
        DUE.is("25: the last TICK of 1440", large.shows(0, 1439), 1439 + 1439 + 142 - 2 * 1440);
        DUE.is("25: the last TICK of 1440, less", large.shows(1, 1439), 1439 - 143);
        DUE.is("25: no TICK 1440", large.shows(0, 1440), -1);
        DUE.is("25: a thousand TICKS, all of GAIN", large.shows(1, 1000), 901);
        DUE.is("25: the last TICK of 8", town(4, 2, "a@7+99").shows(0, 7), 6);
    }

    private static void promise26() {
        HandsAlike town = town("a@719-1;h@0+99");
        int[] noClock = {LOW, -1, 1, 8, HIGH};
        for (int clock : noClock) {
            DUE.is("26: no such CLOCK " + clock, town.clockIs(clock, 0), -1000);
        }
        int[] noWhat = {LOW, -1, 5, HIGH};
        for (int what : noWhat) {
            DUE.is("26: no such what " + what, town.clockIs(0, what), -1000);
        }
        DUE.is("26: GAIN may be below 0", town.clockIs(0, 1), -1);
        DUE.is("26: GAIN 99", town.clockIs(7, 1), 99);
        DUE.is("26: the last AHEAD", town.clockIs(0, 0), 719);
        DUE.is("26: RIGHT at none", town.clockIs(0, 3), 0);
        DUE.is("26: the first of none", town.clockIs(0, 4), -2);
        // 99 in a thousand is less than 1 up to TICK 10
        DUE.is("26: RIGHT at 0 to 10", town.clockIs(7, 3), 11);
        DUE.is("26: the first", town.clockIs(7, 4), 0);
        // it is 71 slow, and has gained 71 from TICK 718 on
        DUE.is("26: RIGHT, round", town("c@649+99").clockIs(2, 4), 718);
        DUE.is("26: RIGHT at the last two", town("c@649+99").clockIs(2, 3), 2);
    }

    /** One and itself, and CLOCKS that are not told, for each call of two CLOCKS. */
    private static void twoClocksOfEachCall() {
        HandsAlike town = town("a@1;b@1;h@1");
        int[][] wrong = {{0, 0}, {7, 7}, {2, 2}, {0, 2}, {2, 0}, {-1, 0}, {0, -1}, {8, 0}, {0, 8}, {8, 8}, {-1, -1},
            {LOW, 0}, {0, HIGH}};
        for (int[] w : wrong) {
            String two = w[0] + " " + w[1];
            DUE.is("27: no such ones " + two, town.agree(w[0], w[1], false, 0), -1);
            DUE.is("27: no such ones alike " + two, town.agree(w[0], w[1], true, 1), -1);
            DUE.is("28: no such ones " + two, town.agreeing(w[0], w[1]), -1);
            DUE.is("34: no such ones " + two, town.goodTimes(w[0], w[1], 5, 0), -1);
            DUE.is("35: no such ones " + two, town.setBy(w[0], w[1]), false);
            DUE.is("40: no such ones " + two, town.together(w[0], w[1], 5), -1);
        }
        DUE.is("35: nothing was set", town.count(8), 0);
        DUE.is("27: the first and the last", town.agree(0, 7, false, 0), 720);
        DUE.is("28: the first and the last", town.agreeing(7, 0), 720);
        DUE.is("34: the first and the last", town.goodTimes(0, 7, 5, 0), 720);
        DUE.is("40: the first and the last", town.together(7, 0, 5), 0);
        DUE.is("35: the first and the last", town.setBy(0, 7), true);
    }

    private static void promise27() {
        HandsAlike town = town("a@0+10;b@0+11;c@1+10");
        for (int what : NO_TWOFOLD) {
            DUE.is("27: no such what " + what, town.agree(0, 1, false, what), -1);
            DUE.is("27: no such what alike " + what, town.agree(0, 1, true, what), -1);
        }
        // from each hundred on till the next thousandth of 11: 91 82 73 64 55 46 37 and 700 to 719
        DUE.is("27: at how many", town.agree(0, 1, false, 0), 468);
        DUE.is("27: none", town.agree(0, 2, false, 0), 0);
        DUE.is("27: the first of none", town.agree(0, 2, false, 1), -2);
        HandsAlike small = town(4, 2, "a@0;b@3;c@5");
        DUE.is("27: alike at one", small.agree(0, 1, true, 0), 1);
        DUE.is("27: alike first", small.agree(0, 1, true, 1), 2);
        DUE.is("27: alike, round", small.agree(0, 2, true, 1), 5);
        DUE.is("27: alike at none", small.agree(1, 2, true, 0), 0);
        DUE.is("27: the first alike of none", small.agree(1, 2, true, 1), -2);
    }

    private static void promise28() {
        HandsAlike town = town("a@0+10;b@0+11;c@1+10;d@0+10");
        // 0 to 90 and 700 to 719, which would be 111 round
        DUE.is("28: not round", town.agreeing(0, 1), 91);
        DUE.is("28: never", town.agreeing(0, 2), 0);
        DUE.is("28: all of THE DAY", town.agreeing(0, 3), 720);
        // c has gained 3 from TICK 600 on, 9 of 96 from TICK 91 on
        DUE.is("28: up to the last TICK", town("a@2;c@719+5").agreeing(0, 2), 120);
        DUE.is("28: up to the last TICK of 96", town(4, 24, "a@9;c@0+99").agreeing(0, 2), 5);
    }

    private static void promise29() {
        HandsAlike none = new HandsAlike();
        for (int what : NO_TWOFOLD) {
            DUE.is("29: no such what " + what, none.all(what), -1);
        }
        DUE.is("29: no CLOCKS: all", none.all(0), 720);
        DUE.is("29: no CLOCKS: the first", none.all(1), 0);
        none.dial(4, 2);
        DUE.is("29: no CLOCKS: all of 8", none.all(0), 8);
        DUE.is("29: one alone", town("h@7-9").all(0), 720);
        DUE.is("29: eight", town("a@0;b@0;c@0;d@0;e@0;f@0;g@0;h@0+10").all(0), 100);
        DUE.is("29: the first is not so", town("a@1;b@0;h@0").all(0), 0);
        DUE.is("29: none: the first", town("a@1;b@0;h@0").all(1), -2);
        DUE.is("29: late", town("a@7;b@0+10").all(1), 700);
    }

    private static void promise30() {
        HandsAlike none = new HandsAlike();
        DUE.is("30: no CLOCKS", none.nearest(0, 0), -2);
        DUE.is("30: no CLOCKS, by how much", none.nearest(719, 1), -2);
        DUE.is("30: no such what is ahead of no CLOCKS", none.nearest(0, 2), -1);
        DUE.is("30: no such TICK is ahead of no CLOCKS", none.nearest(720, 0), -1);
        HandsAlike town = town("b@360;c@359;g@361");
        for (int what : NO_TWOFOLD) {
            DUE.is("30: no such what " + what, town.nearest(0, what), -1);
        }
        DUE.is("30: of like ones the lowest, both ways", town.nearest(0, 0), 2);
        DUE.is("30: the shorter way", town.nearest(0, 1), 359);
        DUE.is("30: the first CLOCK", town("a@1;b@2").nearest(0, 0), 0);
        DUE.is("30: the first CLOCK, by", town("a@1;b@2").nearest(0, 1), 1);
        DUE.is("30: not the first CLOCK", town("a@2;b@1;c@3").nearest(0, 0), 1);
        DUE.is("30: the first CLOCK alone", town("a@0").nearest(0, 0), 0);
        DUE.is("30: half round", town("b@360").nearest(719, 1), 360);
        DUE.is("30: round, ahead", town("b@719").nearest(719, 1), 1);
        DUE.is("30: round, behind", town("b@1").nearest(719, 1), 1);
        DUE.is("30: right", town("b@5;h@0").nearest(719, 0), 7);
        DUE.is("30: right, by 0", town("b@5;h@0").nearest(719, 1), 0);
    }

    private static void promise31() {
        HandsAlike none = new HandsAlike();
        DUE.is("31: no CLOCKS", none.most(0, 0), -2);
        DUE.is("31: no CLOCKS, how many", none.most(0, 1), 0);
        DUE.is("31: no such what is ahead of no CLOCKS", none.most(0, -1), -1);
        HandsAlike town = town("a@719;b@3;c@719;d@3;e@0");
        for (int what : NO_TWOFOLD) {
            DUE.is("31: no such what " + what, town.most(0, what), -1);
        }
        DUE.is("31: of like ones the lowest TIME", town.most(0, 0), 3);
        DUE.is("31: how many", town.most(0, 1), 2);
        DUE.is("31: round the other one is lower", town.most(1, 0), 0);
        DUE.is("31: the last TICK", town.most(719, 0), 2);
        DUE.is("31: the first CLOCK alone", town("a@7").most(0, 0) * 10 + town("a@7").most(0, 1), 71);
        DUE.is("31: the first CLOCK shows the lowest", town("a@7;b@8").most(0, 0), 7);
        DUE.is("31: all eight", town("a@0;b@0;c@0;d@0;e@0;f@0;g@0;h@0").most(719, 1), 8);
        DUE.is("31: each another one", town("f@9;g@8;h@7").most(0, 0) * 10 + town("f@9;g@8;h@7").most(0, 1), 71);
    }

    private static void promise32() {
        HandsAlike none = new HandsAlike();
        DUE.is("32: no CLOCKS", none.pairs(0, 0) + none.pairs(719, 1), 0);
        HandsAlike town = town("a@0;b@0;c@0;d@0;e@0;f@0;g@0;h@0");
        for (int what : NO_TWOFOLD) {
            DUE.is("32: no such what " + what, town.pairs(0, what), -1);
        }
        DUE.is("32: all twos of eight", town.pairs(719, 0), 28);
        DUE.is("32: the same ones, too", town.pairs(719, 1), 28);
        DUE.is("32: one alone", town("h@0").pairs(0, 1), 0);
        HandsAlike small = town(4, 2, "a@2;b@5;c@2;h@3");
        DUE.is("32: the same", small.pairs(0, 0), 1);
        DUE.is("32: that LOOK ALIKE", small.pairs(0, 1), 3);
        DUE.is("32: not any more a TICK later", small.pairs(1, 1), 1);
        DUE.is("32: of 3 and 2 round", small.pairs(7, 1), 1);
    }

    private static void promise33() {
        DUE.is("33: none", new HandsAlike().spread(0), 0);
        DUE.is("33: one alone", town("h@719").spread(719), 0);
        DUE.is("33: all at one TIME", town("a@719;b@719;h@719").spread(719), 0);
        DUE.is("33: both ends counted as none", town("a@5;b@6").spread(0), 1);
        DUE.is("33: round", town("a@719;b@0").spread(0), 1);
        DUE.is("33: round at the last TICK", town("a@1;b@0").spread(719), 1);
        DUE.is("33: half round", town("a@0;b@360").spread(0), 360);
        DUE.is("33: the widest gap is not across 0", town("a@10;b@300;h@700").spread(0), 320);
        DUE.is("33: all MARKS of a round", town(4, 2, "a@0;b@1;c@2;d@3;e@4;f@5;g@6;h@7").spread(3), 7);
    }

    private static void promise34() {
        HandsAlike town = town("a@0;b@10;c@0+99;d@719+99");
        for (int what : NO_TWOFOLD) {
            DUE.is("34: no such what " + what, town.goodTimes(0, 1, 5, what), -1);
        }
        int[] noTicks = {LOW, -1, 100, HIGH};
        for (int ticks : noTicks) {
            DUE.is("34: no such TICKS " + ticks, town.goodTimes(0, 1, ticks, 0), -1);
        }
        DUE.is("34: one TICK too few", town.goodTimes(0, 1, 9, 0), 0);
        DUE.is("34: none: the first", town.goodTimes(0, 1, 9, 1), -2);
        DUE.is("34: just so many", town.goodTimes(0, 1, 10, 0), 710);
        DUE.is("34: the first, not round", town.goodTimes(0, 1, 10, 1), 10);
        DUE.is("34: 99", town.goodTimes(0, 1, 99, 0), 710);
        // both go alike up to TICK 10, then c leaves 11 out
        DUE.is("34: 0 TICKS", town.goodTimes(0, 2, 0, 0), 11);
        DUE.is("34: 0 TICKS, the first", town.goodTimes(0, 2, 0, 1), 0);
        // b shows 0 to 711, each at most 8 TICKS later; 712 would be shown at TICK 720
        DUE.is("34: to the end of THE DAY", town("a@0;b@0-10").goodTimes(0, 1, 99, 0), 712);
        HandsAlike small = town(4, 2, "a@0;b@4");
        DUE.is("34: 4 TICKS of 8", small.goodTimes(0, 1, 4, 0), 8);
        DUE.is("34: 3 TICKS of 8", small.goodTimes(0, 1, 3, 0), 0);
    }

    private static void promise35() {
        HandsAlike town = town("a@719-99;h@0+99");
        DUE.is("35: set", town.setBy(7, 0), true);
        DUE.is("35: as much AHEAD", town.clockIs(7, 0), 719);
        DUE.is("35: GAIN stays", town.clockIs(7, 1), 99);
        DUE.is("35: SET one more", town.clockIs(7, 2), 1);
        DUE.is("35: as much already, SET one more again", town.setBy(7, 0), true);
        DUE.is("35: SET 2", town.clockIs(7, 2), 2);
        DUE.is("35: the other one stays", town.clockIs(0, 0) + town.clockIs(0, 2), 719);
        DUE.is("35: no DRAW", town.count(7), 1);
    }

    private static void promise36() {
        HandsAlike town = town("a@0;b@0");
        DUE.is("36: no BOOK", town.appointment(0, 0), -1);
        StringBuilder book = new StringBuilder("ab@719:99");
        for (int i = 1; i < 16; i++) {
            book.append(";hg@").append(i).append(":0");
        }
        DUE.is("36: sixteen", Due.book(town, book.toString()), 16);
        int[] noAppointment = {LOW, -1, 16, HIGH};
        for (int i : noAppointment) {
            DUE.is("36: no such one " + i, town.appointment(i, 0), -1);
        }
        int[] noWhat = {LOW, -1, 8, HIGH};
        for (int what : noWhat) {
            DUE.is("36: no such what " + what, town.appointment(0, what), -1);
        }
        int[] first = {0, 1, 719, 99, 719, 719, 1, 0};
        int[] last = {7, 6, 15, 0, -2, -2, 0, 0};
        for (int what = 0; what < 8; what++) {
            DUE.is("36: the first " + what, town.appointment(0, what), first[what]);
            DUE.is("36: the last, not told " + what, town.appointment(15, what), last[what]);
        }
    }

    private static void promise36Waits() {
        HandsAlike town = town("a@0;b@10;c@0+99;d@0");
        Due.book(town, "ab@50:10;ab@50:9;ab@5:99;ah@50:99;ha@50:0;ca@111:7;ad@719:0;ab@10:10;cd@0:0");
        DUE.is("36: no more than so many: they MEET", town.appointment(0, 6), 1);
        DUE.is("36: and so many are waited", town.appointment(0, 7), 10);
        DUE.is("36: one more: they do not", town.appointment(1, 6), 0);
        DUE.is("36: so many at most, also if they do not MEET", town.appointment(1, 7), 9);
        DUE.is("36: not round: there at 715", town.appointment(2, 5), 715);
        DUE.is("36: not round: they do not MEET", town.appointment(2, 6), 0);
        DUE.is("36: not round: waited", town.appointment(2, 7), 99);
        DUE.is("36: the second CLOCK not told", town.appointment(3, 5), -2);
        DUE.is("36: there alone: so many", town.appointment(3, 7), 99);
        DUE.is("36: there alone, no MEETING", town.appointment(3, 6), 0);
        DUE.is("36: the first CLOCK not told", town.appointment(4, 4), -2);
        DUE.is("36: there alone: 0 of 0", town.appointment(4, 7), 0);
        DUE.is("36: not on THE DAY", town.appointment(5, 4), -2);
        DUE.is("36: not on THE DAY, the other alone", town.appointment(5, 7), 7);
        DUE.is("36: at the last TICK both, 0 TICKS", town.appointment(6, 6), 1);
        DUE.is("36: at the last TICK nobody waits", town.appointment(6, 7), 0);
        DUE.is("36: there at TICK 0", town.appointment(7, 5), 0);
        DUE.is("36: MET from TICK 0 on", town.appointment(7, 6) * 100 + town.appointment(7, 7), 110);
        DUE.is("36: MET from TICK 0 on, by the first", Due.book(town, "ba@10:99"), 1);
        DUE.is("36: the first waits from TICK 0 on", town.appointment(0, 7), 10);
        Due.book(town, "ah@0:7;ha@0:7");
        DUE.is("36: there alone at TICK 0", town.appointment(0, 7), 7);
        DUE.is("36: the second alone at TICK 0", town.appointment(1, 7), 7);
        Due.book(town, "ab@50:10;ab@50:9;ab@5:99;ah@50:99;ha@50:0;ca@111:7;ad@719:0;ab@10:10;cd@0:0");
        DUE.is("36: both at TICK 0", town.appointment(8, 6) * 100 + town.appointment(8, 4) + town.appointment(8, 5), 100);
        Due.clocks(town, "a@0-1");
        // 0 is SHOWN at 0 and at 1: the first counts
        Due.book(town, "ab@0:5;ba@718:5");
        DUE.is("36: shown twice, the first", town.appointment(0, 4), 0);
        DUE.is("36: shown late", town.appointment(1, 5), 719);
        Due.clocks(town, "a@0-10");
        Due.book(town, "ab@711:5;ab@712:5");
        DUE.is("36: shown at the last TICK", town.appointment(0, 4), 719);
        DUE.is("36: TICK 720 is not of THE DAY", town.appointment(1, 4), -2);
        DUE.is("36: nobody is there", town.appointment(1, 7), 0);
    }

    private static void promise37() {
        HandsAlike town = new HandsAlike();
        for (int what : NO_TWOFOLD) {
            DUE.is("37: no such what " + what, town.meetings(what), -1);
        }
        DUE.is("37: no BOOK, none MEET", town.meetings(0), 0);
        DUE.is("37: no BOOK, none waits", town.meetings(1), 0);
        Due.book(town, "ab@50:99;ab@50:99");
        DUE.is("37: no CLOCKS, none MEET", town.meetings(0), 0);
        DUE.is("37: no CLOCKS, none waits", town.meetings(1), 0);
        Due.clocks(town, "a@0");
        DUE.is("37: one is there, none MEET", town.meetings(0), 0);
        DUE.is("37: one is there, each time he waits", town.meetings(1), 198);
        StringBuilder book = new StringBuilder("ab@100:99");
        for (int i = 1; i < 16; i++) {
            book.append(";ab@100:9");
        }
        Due.clocks(town, "a@0;b@60");
        Due.book(town, book.toString());
        DUE.is("37: of sixteen one is MET", town.meetings(0), 1);
        DUE.is("37: waited by sixteen", town.meetings(1), 60 + 15 * 9);
    }

    private static void promise38() {
        HandsAlike town = new HandsAlike();
        for (int n : NO_DAYS) {
            DUE.is("38: no such n " + n, town.days(n), -1);
        }
        DUE.is("38: none went by", town.count(0), 0);
        DUE.is("38: one", town.days(1), 0);
        DUE.is("38: a hundred", town.days(100), 0);
        DUE.is("38: so many went by", town.count(0), 101);
        DUE.is("38: no CLOCKS, no DRAWS", town.count(7), 1);
        Due.law(town, "x(1=1)");
        Due.clocks(town, "a@0;b@0;c@0;d@0;e@0;f@0;g@0;h@0");
        DUE.is("38: how often, the most", town.days(100), 800);
        DUE.is("38: SET of all", town.count(8), 800);
    }

    private static void promise38LastDay() {
        HandsAlike town = town("a@1;b@0");
        for (int i = 0; i < 99; i++) {
            town.days(100);
        }
        town.days(97);
        DUE.is("38: THE DAY", town.count(0), 9997);
        Due.law(town, "x(c=0);s1(c=1)");
        DUE.is("39: as many as can", town.tried(100, 0), 2);
        DUE.is("39: as many as can, AHEAD", town.tried(100, 11), 718);
        DUE.is("40: behind the first of them", town.together(0, 1, 100), -2);
        DUE.is("38: as many as can", town.days(100), 2);
        DUE.is("38: 9999 at most", town.count(0), 9999);
        int x = town.count(7);
        DUE.is("38: then none goes by", town.days(100), 0);
        DUE.is("38: 9999 stays", town.count(0), 9999);
        DUE.is("38: AHEAD stays", town.clockIs(1, 0), 718);
        DUE.is("38: no DRAWS", town.count(7), x);
        DUE.is("39: none is tried", town.tried(100, 0), 0);
        DUE.is("39: as it is", town.tried(1, 11), 718);
        DUE.is("40: none goes by", town.together(0, 1, 1), -2);
        town.setBy(0, 1);
        DUE.is("40: they are", town.together(0, 1, 1), 0);
        Due.clocks(town, "a@0;b@1");
        DUE.is("40: though a DAY more would do", town.together(0, 1, 1), -2);
        DUE.is("42: 9999", town.keep(), 9999);
        // t of DAY 9999 can't be asked: none goes by
        DUE.is("43: 9999 again", town.undo(), true);
        DUE.is("45: THE DAY 9999", town.count(0), 9999);
    }

    /** AHEAD 0 and GAIN 0 of the only CLOCK behind one DAY by a law: TICKS it stood, or how GAIN changed. */
    private static int stood(String law) {
        HandsAlike town = town(60, 24, "a@0");
        Due.law(town, law);
        return (1440 - town.tried(1, 10)) % 1440;
    }

    private static int gained(String law) {
        HandsAlike town = town("a@0");
        Due.law(town, law);
        return town.tried(1, 20) - 99;
    }

    private static void theBoundsOfTheLaw() {
        DUE.is("Terms: s 999", stood("s999(1=1)"), 999);
        DUE.is("Terms: s 1000 is 999", stood("s1000(1=1)"), 999);
        DUE.is("Terms: s below 0 is 0", stood("s0-1(1=1)"), 0);
        DUE.is("Terms: s 1", stood("s1(1=1)"), 1);
        DUE.is("Terms: s of 32 bits, all but 5122", stood("s99999*21475(1=1)"), 999);
        DUE.is("Terms: s of 32 bits, one more turns below 0", stood("s99999*21476(1=1)"), 0);
        DUE.is("Terms: no RULE of s: 0", stood("g5(1=1)"), 0);
        DUE.is("Terms: no C holds: 0", stood("s5(1=2);s6(2=1)"), 0);
        DUE.is("Terms: the first whose C holds", stood("s5(1=2);s6(1=1);s7(1=1)"), 6);
        DUE.is("Terms: the E is bounded, not the next RULE asked", stood("s0-5(1=1);s7(1=1)"), 0);
        DUE.is("Terms: g 20", gained("g20(1=1)"), 20);
        DUE.is("Terms: g 21 is 20", gained("g21(1=1)"), 20);
        DUE.is("Terms: g below 0 is 0", gained("g0-1(1=1)"), 0);
        DUE.is("Terms: l 20", gained("l20(1=1)"), -20);
        DUE.is("Terms: l 21 is 20", gained("l21(1=1)"), -20);
        DUE.is("Terms: l below 0 is 0", gained("l0-1(1=1)"), 0);
        DUE.is("Terms: none of g, l: 0", gained("s20(1=1)"), 0);
        DUE.is("Terms: five digits", gained("g99999-99988(1=1)"), 11);
        DUE.is("Terms: what is divided by 0: E is 0", gained("g7+1/0(1=1);g5(1=1)"), 0);
        DUE.is("Terms: the rest by 0: E is 0", gained("g7+1%0(1=1);g5(1=1)"), 0);
        DUE.is("Terms: C with a division by 0 does not hold", gained("g7(1/0=0);g5(1=1)"), 5);
        DUE.is("Terms: nor its contrary", gained("g7(!1/0=0);g5(1=1)"), 5);
        DUE.is("Terms: nor the whole", gained("g7(1/0=0|1=1);g5(1=1)"), 5);
        DUE.is("Terms: nor from within", gained("g7(!(1=1&!(2=2&1%0=0))|1=1);g5(1=1)"), 5);
        DUE.is("Terms: what does not matter is not asked: |", gained("g7(1=1|1/0=0)"), 7);
        DUE.is("Terms: what does not matter is not asked: &", gained("g7(1=2&1/0=0|1=1)"), 7);
        DUE.is("Terms: of several TESTS the first fails", gained("g7(1=2&1=1&1=1|1=1)"), 7);
        DUE.is("Terms: of several PARTS the first holds", gained("g7(1=1|1=2|1/0=1)"), 7);
        DUE.is("Terms: the contrary of such PARTS", gained("g7(!(1=1|1=2|1=2))"), 0);
        DUE.is("Terms: the contrary of TESTS", gained("g7(!(1=2&1=1))"), 7);
        DUE.is("Terms: the contrary of TESTS, as much as matters", gained("g7(!(1=2&1/0=1))"), 7);
        DUE.is("Terms: a C within a C", gained("g7((1=2&1=1)|1=1)"), 7);
        DUE.is("Terms: the contrary of <", gained("g7(!1<2);g5(!2<1)"), 5);
        DUE.is("Terms: the contrary of >", gained("g7(!2>1);g5(!1>2)"), 5);
        DUE.is("Terms: the next RULE is not asked", gained("g7(1=1);g1/0(1=1)"), 7);
        DUE.is("Terms: nor is its C", gained("g7(1=1);g1(1/0=1)"), 7);
        DUE.is("Terms: both sides of a TEST matter", gained("g7(0=1/0|1=1);g5(1=1)"), 5);
    }

    private static int gainBehind(String clock, String law) {
        HandsAlike town = town(clock);
        Due.law(town, law);
        town.days(1);
        return town.clockIs(0, 1);
    }

    private static void theGainOfADay() {
        DUE.is("Terms: up to 99", gainBehind("a@0+98", "g1(1=1)"), 99);
        DUE.is("Terms: no more than 99", gainBehind("a@0+98", "g2(1=1)"), 99);
        DUE.is("Terms: 99 and 20", gainBehind("a@0+99", "g20(1=1)"), 99);
        DUE.is("Terms: down to -99", gainBehind("a@0-98", "l1(1=1)"), -99);
        DUE.is("Terms: no less than -99", gainBehind("a@0-98", "l2(1=1)"), -99);
        DUE.is("Terms: -99 and 20 less", gainBehind("a@0-99", "l20(1=1)"), -99);
        DUE.is("Terms: through 0", gainBehind("a@0+5", "l9(1=1)"), -4);
        // what g and l come to together is bounded, not each
        DUE.is("Terms: more and less at 99", gainBehind("a@0+99", "g20(1=1);l5(1=1)"), 99);
        DUE.is("Terms: less and more at 99", gainBehind("a@0+99", "g5(1=1);l20(1=1)"), 84);
        DUE.is("Terms: less and more at -99", gainBehind("a@0-99", "g5(1=1);l20(1=1)"), -99);
    }

    private static int aheadBehind(HandsAlike town, String law) {
        Due.law(town, law);
        town.days(1);
        return town.clockIs(0, 0);
    }

    private static void theWayOfADay() {
        // 720 times 99 are 71280
        DUE.is("Terms: a DAY of GAIN 99", aheadBehind(town("a@0+99"), "x(1=2)"), 71);
        DUE.is("Terms: round", aheadBehind(town("a@700+99"), "x(1=2)"), 51);
        DUE.is("Terms: a DAY of GAIN -99, rounded down, round", aheadBehind(town("a@0-99"), "x(1=2)"), 720 - 72);
        DUE.is("Terms: GAIN 1 of 720 TICKS", aheadBehind(town("a@0+1"), "x(1=2)"), 0);
        DUE.is("Terms: GAIN -1 of 720 TICKS", aheadBehind(town("a@0-1"), "x(1=2)"), 719);
        DUE.is("Terms: just a thousand", aheadBehind(town(50, 20, "a@0+1"), "x(1=2)"), 1);
        DUE.is("Terms: 1998 are one thousand", aheadBehind(town(37, 18, "a@0+3"), "x(1=2)"), 1);
        DUE.is("Terms: GAIN of before", aheadBehind(town("a@0"), "g20(1=1)"), 0);
        DUE.is("Terms: less by s, round", aheadBehind(town("a@0"), "s1(1=1)"), 719);
        DUE.is("Terms: less by more than a round", aheadBehind(town("a@0"), "s999(1=1)"), 441);
        DUE.is("Terms: many rounds", aheadBehind(town(4, 2, "a@0"), "s999(1=1)"), 1);
        DUE.is("Terms: s and GAIN", aheadBehind(town("a@5-99"), "s5(1=1)"), 648);
        DUE.is("Terms: x behind all", aheadBehind(town("a@5+99"), "s5(1=1);x(1=1)"), 0);
        HandsAlike town = town("a@5;b@5;c@5");
        Due.law(town, "x(n=2);s9(n=1)");
        DUE.is("Terms: those of lower numbers have had their DAY", town.days(1), 1);
        DUE.is("Terms: b had one other left", town.clockIs(1, 0), 716);
        DUE.is("Terms: c had none", town.clockIs(2, 0), 5);
        // half round and one more: from there on it is nearer the other way
        HandsAlike half = town("a@360;b@361;c@719;d@0");
        Due.law(half, "x(o=360);g1(o=359);g2(o=1);g3(o=0)");
        DUE.is("Terms: o, the shorter way round", half.days(1), 1);
        DUE.is("Terms: o of 361", half.clockIs(1, 1), 1);
        DUE.is("Terms: o of 719", half.clockIs(2, 1), 2);
        DUE.is("Terms: o of 0", half.clockIs(3, 1), 3);
        HandsAlike gain = town("a@0-99;b@0+99");
        Due.law(gain, "x(v=0|v=198)");
        DUE.is("Terms: v from 0 to 198", gain.days(1), 2);
        HandsAlike hundred = town("a@0");
        hundred.days(99);
        Due.law(hundred, "x(t=99);g1(t=0)");
        DUE.is("Terms: t 99", hundred.days(1), 1);
        DUE.is("Terms: t 0 again", hundred.days(1), 0);
        DUE.is("Terms: t 0 is so", hundred.clockIs(0, 1), 1);
    }

    private static void setAtItsMost() {
        HandsAlike town = town("a@0;b@5");
        Due.law(town, "x(c=0)");
        for (int i = 0; i < 98; i++) {
            town.days(100);
        }
        DUE.is("Terms: SET", town.clockIs(0, 2), 9800);
        for (int i = 0; i < 198; i++) {
            town.setBy(0, 1);
        }
        DUE.is("Terms: SET 9998", town.clockIs(0, 2), 9998);
        town.setBy(0, 1);
        DUE.is("Terms: SET 9999", town.clockIs(0, 2), 9999);
        DUE.is("35: still set", town.setBy(0, 1), true);
        DUE.is("35: SET 9999 at most", town.clockIs(0, 2), 9999);
        Due.law(town, "x(k=9999)");
        DUE.is("38: still set right", town.days(1), 1);
        DUE.is("38: AHEAD 0", town.clockIs(0, 0), 0);
        DUE.is("38: SET 9999 at most", town.clockIs(0, 2), 9999);
        town.setBy(1, 0);
        DUE.is("45: SET of all is more", town.count(8), 10000);
        Due.clocks(town, "a@0;b@5");
        DUE.is("5: SET 0 again", town.count(8), 0);
    }

    private static void promise39() {
        HandsAlike town = town("a@0-99;h@719+99");
        Due.book(town, "ah@50:99");
        for (int n : NO_DAYS) {
            DUE.is("39: no such n " + n, town.tried(n, 0), -1);
        }
        int[] noWhat = {LOW, LOW + 10, -1, 2, 9, 11, 16, 18, 19, 21, 26, 28, 30, HIGH};
        for (int what : noWhat) {
            DUE.is("39: no such what " + what, town.tried(1, what), -1);
        }
        DUE.is("39: AHEAD of the first", town.tried(1, 10), 648);
        DUE.is("39: AHEAD of the last", town.tried(1, 17), 70);
        DUE.is("39: GAIN and 99 of the first", town.tried(1, 20), 0);
        DUE.is("39: GAIN and 99 of the last", town.tried(100, 27), 198);
        // 100 times 72 are ten rounds
        DUE.is("39: a hundred DAYS", town.tried(100, 10), 0);
        DUE.is("39: nothing is changed", town.clockIs(0, 0) + town.count(0) + town.count(7), 1);
        HandsAlike met = town("a@0;b@100");
        Due.law(met, "s10(c=1)");
        Due.book(met, "ab@300:15");
        DUE.is("39: how many MEET now", met.meetings(0), 0);
        DUE.is("39: how many MEET behind 8", met.tried(8, 1), 0);
        DUE.is("39: how many MEET behind 9", met.tried(9, 1), 1);
        DUE.is("39: no BOOK", town("a@0").tried(1, 1), 0);
        Due.law(town, "sw(1=1)");
        int first = town.tried(1, 10);
        DUE.is("39: the same DRAWS again", town.tried(1, 10), first);
        town.days(1);
        DUE.is("39: by the DRAWS that came", town.clockIs(0, 0), first);
    }

    private static void promise40() {
        HandsAlike town = town("a@0;b@100;c@0");
        for (int n : NO_DAYS) {
            DUE.is("40: no such n " + n, town.together(0, 1, n), -1);
            DUE.is("40: no such n though they are " + n, town.together(0, 2, n), -1);
        }
        Due.law(town, "s1(c=1)");
        DUE.is("40: 0: they are", town.together(0, 2, 1), 0);
        DUE.is("40: behind the last of a hundred", town.together(0, 1, 100), 100);
        DUE.is("40: not in these", town.together(0, 1, 99), -2);
        DUE.is("40: not in one", town.together(1, 0, 1), -2);
        DUE.is("40: nothing is changed", town.count(0) + town.clockIs(1, 0) + town.count(7), 101);
        Due.law(town, "s1(c=0)");
        DUE.is("40: away from one another", town.together(0, 1, 100), -2);
        HandsAlike round = town("a@0;b@719");
        Due.law(round, "s1(c=0)");
        DUE.is("40: below 0, round", round.together(0, 1, 1), 1);
    }

    private static void promise41() {
        HandsAlike town = town("a@0");
        int[] wrong = {LOW, -1, 65536, HIGH};
        for (int x : wrong) {
            DUE.is("41: no such number " + x, town.seed(x), false);
            DUE.is("41: X stays", town.count(7), 1);
        }
        DUE.is("41: 65535", town.seed(65535), true);
        DUE.is("41: X, too", town.count(7), 65535);
        Due.law(town, "sw(1=1)");
        town.days(1);
        // 25173 less than a multiple of 65536, and 13849
        DUE.is("41: X from 65535 on", town.count(7), 54212);
        DUE.is("41: the DRAW is X modulo 10", town.clockIs(0, 0), 718);
        DUE.is("41: 0", town.seed(0), true);
        DUE.is("41: X 0", town.count(7), 0);
        town.days(1);
        DUE.is("41: X from 0 on", town.count(7), 13849);
        DUE.is("41: the DRAW 9", town.clockIs(0, 0), 709);
    }

    private static void promise42And43() {
        HandsAlike town = new HandsAlike();
        DUE.is("43: none was KEPT", town.undo(), false);
        DUE.is("42: THE DAY 0", town.keep(), 0);
        DUE.is("43: nothing told then", town.undo(), true);
        Due.clocks(town, "a@1;h@2");
        town.days(3);
        DUE.is("42: THE DAY", town.keep(), 3);
        Due.clocks(town, "a@5+5;b@6");
        town.seed(9);
        town.days(1);
        DUE.is("42: KEPT last", town.keep(), 4);
        town.days(100);
        DUE.is("43: UNDONE", town.undo(), true);
        DUE.is("43: as KEPT last, THE DAY", town.count(0), 4);
        DUE.is("43: as KEPT last, CLOCKS", town.count(1), 3);
        DUE.is("43: as KEPT last, GAIN", town.clockIs(0, 1), 5);
        DUE.is("43: again and again", town.undo(), true);
        Due.clocks(town, "h@700");
        DUE.is("43: not told now, told then", town.undo(), true);
        DUE.is("43: told then, and what stays", town.count(1), 131);
        DUE.is("43: not told then stays as it is now", town.clockIs(7, 0), 700);
        town.dial(60, 11);
        DUE.is("43: another R", town.undo(), false);
        town.dial(59, 12);
        DUE.is("43: other MARKS", town.undo(), false);
        DUE.is("43: refused: no CLOCKS come", town.count(1), 0);
        DUE.is("43: refused: THE DAY stays", town.count(0), 4);
        town.dial(12, 60);
        town.dial(60, 12);
        DUE.is("43: the DIAL of then", town.undo(), true);
        DUE.is("43: those told then", town.count(1), 3);
        town.dial(4, 2);
        town.keep();
        town.dial(60, 12);
        DUE.is("43: the DIAL of an earlier keep", town.undo(), false);
        town.dial(4, 2);
        DUE.is("43: the DIAL of the last keep", town.undo(), true);
    }

    private static void promise44() {
        HandsAlike town = town("a@0;b@255;c@256;d@511;e@512;f@719");
        int[] wrong = {LOW, -1, 9, HIGH};
        Due.feed(town, 0, 255, 0, 255, 0, 207, 255, 255);
        for (int n : wrong) {
            DUE.is("44: no such n " + n, town.check(n), -2);
            DUE.is("44: the tape stays", town.count(6), 20);
        }
        DUE.is("44: modulo 256, not told 255: right", town.check(8), -1);
        DUE.is("44: empty then", town.count(6), 0);
        DUE.is("44: not so many", town.check(1), -2);
        DUE.is("44: 0 of an empty tape", town.check(0), -1);
        Due.feed(town, 0, 255, 0, 255, 0, 207, 255, 254);
        DUE.is("44: the last is not so", town.check(8), 7);
        Due.feed(town, 0, 255, 0, 255, 0, 207, 255, 254);
        DUE.is("44: only seven", town.check(7), -1);
        DUE.is("44: empty then, too", town.count(6), 0);
        Due.feed(town, 1, 0);
        DUE.is("44: the first is not so", town.check(8), 0);
        Due.feed(town, 0, 255, 1, 0);
        DUE.is("44: the first of several", town.check(8), 2);
        Due.feed(town, 9, 9);
        DUE.is("44: none asked", town.check(0), -1);
        DUE.is("44: and the tape is empty", town.count(6), 0);
        DUE.is("44: nothing else is changed", town.count(1), 63);
    }

    private static void promise45() {
        HandsAlike town = town("a@0;b@0;c@0;d@0;e@0;f@0;g@0;h@0");
        int[] wrong = {LOW, -1, 9, 10, HIGH};
        for (int what : wrong) {
            DUE.is("45: none for " + what, town.count(what), -1);
        }
        DUE.is("45: all CLOCKS", town.count(1), 255);
        Due.clocks(town, "h@0");
        DUE.is("45: the last CLOCK", town.count(1), 128);
        town.seed(65535);
        DUE.is("45: the largest X", town.count(7), 65535);
        Due.law(town, "x(1=1)");
        town.days(2);
        DUE.is("45: SET of all", town.count(8), 2);
        town.dial(60, 12);
        DUE.is("45: SET of none", town.count(8), 0);
    }

    /** What was asked or told before leaves nothing behind. */
    private static void askedBefore() {
        HandsAlike town = town("a@0;b@0;c@0+99;d@620+10");
        DUE.is("34: all TIMES", town.goodTimes(0, 1, 99, 0), 720);
        // c leaves 64 TIMES out, and is at most 71 TICKS early
        DUE.is("34: those that are left out", town.goodTimes(0, 2, 99, 0), 656);
        DUE.is("34: all TIMES again", town.goodTimes(0, 1, 99, 1), 0);
        // d goes from 719 at TICK 99 to 1 at TICK 100
        DUE.is("34: TIME 0 is left out", town.goodTimes(0, 3, 99, 1), 1);
        town.setBy(0, 1);
        town.tried(1, 0);
        town.together(2, 3, 1);
        Due.clocks(town, "a@0;b@0");
        DUE.is("5: SET 0, though it was tried with more", town.clockIs(0, 2) + town.count(8), 0);
        StringBuilder sixteen = new StringBuilder();
        for (int i = 0; i < 16; i++) {
            sixteen.append(i == 0 ? "" : ";").append("s5+5+5(1=2)");
        }
        for (int i = 0; i < 6; i++) {
            DUE.is("4: sixteen RULES", Due.law(town, sixteen.toString()), 16);
        }
        DUE.is("4: none of sixteen holds", town.tried(1, 10), 0);
        for (int i = 0; i < 6; i++) {
            Due.law(town, sixteen.substring(0, sixteen.length() - 2) + "1)");
        }
        DUE.is("4: the last of sixteen holds", town.tried(1, 10), 705);
        Due.law(town, sixteen.toString().replace("s5+5+5", "x"));
        DUE.is("4: none of sixteen x holds", town.tried(1, 0), 0);
        Due.law(town, "g1(1=1)");
        DUE.is("4: one in place of sixteen", town.count(5), 1);
        DUE.is("4: none of s any more", town.tried(1, 10), 0);
    }
}
