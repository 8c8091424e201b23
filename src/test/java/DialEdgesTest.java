/**
 * Promises 1 to 3 and 7 to 24: a check of its own for each sentence of the document that names an edge
 * (too small, too large, empty, full, round, refused). Answers are worked out by hand.
 */
public final class DialEdgesTest {
    private static final int LOW = Integer.MIN_VALUE;
    private static final int HIGH = Integer.MAX_VALUE;
    private static final Due DUE = new Due();

    public static void main(String[] args) {
        promise1();
        promise2();
        promise3();
        timesOfEachCall();
        promise7();
        promise8();
        promise9();
        promise10();
        promise11();
        promise12();
        promise13();
        promise14();
        promise15();
        promise16Numbers();
        promise16Marks();
        promise16Rows();
        promise17();
        promise18();
        promise19();
        promise20();
        promise21();
        promise22();
        promise23();
        promise24();
        askedBefore();
        DUE.end("DialEdgesTest");
    }

    private static HandsAlike town(int marks, int turns) {
        HandsAlike town = new HandsAlike();
        DUE.is("dial " + marks + " " + turns, town.dial(marks, turns), true);
        return town;
    }

    /** SHORT LONG: 00 01 12 13 20 21 32 33; only 2 and 5 look alike. */
    private static HandsAlike smallest() {
        return town(4, 2);
    }

    /**
     * SHORT LONG: 00 01 02 03 00 01, 12 13 10 11 12 13, 20 21 22 23 20 21, 32 33 30 31 32 33.
     * Alike: 0 4; 1 5 8; 2 12 16; 3 20; 6 10 13 17; 7 11 21; 15 18 22; 19 23; only 9 and 14 can be told.
     */
    private static HandsAlike six() {
        return town(4, 6);
    }

    private static void promise1() {
        HandsAlike town = new HandsAlike();
        DUE.is("1: the last TIME of 60 MARKS, 12", town.reads(719, 0), 59);
        DUE.is("1: no TIME behind it", town.reads(720, 0), -1);
        DUE.is("1: no CLOCKS", town.count(1), 0);
        DUE.is("1: no BOOK", town.count(2) + town.meetings(0) + town.meetings(1), 0);
        DUE.is("1: no LAW", town.count(5), 0);
        DUE.is("1: THE DAY 0", town.count(0), 0);
        DUE.is("1: the tape is empty", town.count(6), 0);
        Due.clocks(town, "a@0");
        town.days(1);
        DUE.is("1: THE SEED 1", town.count(7), 39022);
        DUE.is("1: no LAW, so nothing changes", town.clockIs(0, 0) + town.clockIs(0, 1) + town.clockIs(0, 2), 0);
    }

    private static void promise2() {
        int[][] wrong = {{3, 2}, {61, 2}, {4, 1}, {4, 25}, {0, 0}, {-4, -2}, {LOW, LOW}, {HIGH, HIGH}};
        HandsAlike town = new HandsAlike();
        for (int[] w : wrong) {
            DUE.is("2: no dial " + w[0] + " " + w[1], town.dial(w[0], w[1]), false);
            DUE.is("2: MARKS stay", town.count(3), 60);
            DUE.is("2: R stays", town.count(4), 12);
        }
        int[][] right = {{4, 2, 8}, {4, 24, 96}, {60, 2, 120}, {60, 24, 1440}};
        for (int[] w : right) {
            DUE.is("2: dial " + w[0] + " " + w[1], town.dial(w[0], w[1]), true);
            DUE.is("2: its last TIME", town.reads(w[2] - 1, 0), w[0] - 1);
            DUE.is("2: its last TIME, LONG", town.reads(w[2] - 1, 1), w[0] - 1);
            DUE.is("2: behind its last TIME", town.reads(w[2], 0), -1);
        }
        Due.clocks(town, "a@1");
        town.keep();
        town.dial(4, 2);
        DUE.is("2: a new DIAL has no CLOCKS", town.count(1), 0);
        town.dial(60, 24);
        DUE.is("2: what was KEPT stays", town.undo(), true);
        DUE.is("2: and is told again", town.count(1), 1);
    }

    private static void promise3() {
        HandsAlike town = new HandsAlike();
        Due.clocks(town, "a@1;b@2;c@3;d@4;e@5;f@6;g@7;h@8");
        town.feed(0x01020304, 0x05060708, 0, 0, 0);
        DUE.is("3: the highest of each int first, one int behind the other", town.check(8), -1);
        Due.clocks(town, "a@255;b@254;c@128;d@127");
        town.feed(0xfffe807f, 0, 0, 0, 0);
        DUE.is("3: bytes of an int below 0", town.check(4), -1);
        Due.clocks(town, "a@1;b@2;c@3");
        for (int i = 1; i <= 13; i++) {
            DUE.is("3: so many bytes", town.feed(i == 1 ? 0x01020300 : 0, 0, 0, 0, 0), 20 * i);
        }
        DUE.is("3: more than 260", town.feed(-1, -1, -1, -1, -1), -1);
        DUE.is("3: refused again", town.feed(-1, -1, -1, -1, -1), -1);
        DUE.is("3: 260 stay", town.count(6), 260);
        DUE.is("3: the same ones stay", town.check(3), -1);
        DUE.is("3: empty then", town.count(6), 0);
        DUE.is("3: from 0 on again", town.feed(0, 0, 0, 0, 0), 20);
        Due.feed(town, Due.bytes("zzzz"));
        DUE.is("3: behind the tape: 40 bytes", town.count(6), 40);
        DUE.is("3: behind the tape: not ahead of it", town.clocks(40), -1000);
    }

    /** All calls that take a TIME, at the edges of the smallest DIAL, of the first and of the largest. */
    private static void timesOfEachCall() {
        int[][] dials = {{4, 2}, {60, 12}, {60, 24}};
        for (int[] d : dials) {
            HandsAlike town = town(d[0], d[1]);
            int all = d[0] * d[1];
            int[] wrong = {LOW, -2, -1, all, all + 1, HIGH};
            for (int t : wrong) {
                DUE.is("7: no TIME " + t, town.reads(t, 0), -1);
                DUE.is("8: no TIME " + t, town.exchanged(t), -1);
                DUE.is("12: no TIME " + t, town.till(t), -1);
                DUE.is("13: no TIME " + t, town.glance(t), -1);
                DUE.is("14: no TIME " + t, t == -1 ? -1 : town.covered(t), -1);
                DUE.is("19: no TIME " + t, town.strokesTill(t, 1, true), -1);
                DUE.is("20: from no TIME " + t, town.strokes(t, all - 1, true), -1);
                DUE.is("20: to no TIME " + t, town.strokes(0, t, true), -1);
                DUE.is("23: no such later " + t, town.towers(t, true, 0), -1);
                DUE.is("30: no TICK " + t, town.nearest(t, 0), -1);
                DUE.is("31: no TICK " + t, town.most(t, 0), -1);
                DUE.is("32: no TICK " + t, town.pairs(t, 0), -1);
                DUE.is("33: no TICK " + t, town.spread(t), -1);
            }
            int last = all - 1;
            DUE.is("7: the last TIME", town.reads(last, 5), 0);
            DUE.is("8: the last TIME", town.exchanged(last), last);
            DUE.is("12: the last TIME", town.till(last), 0);
            DUE.is("13: the last TIME", town.glance(last), 1);
            DUE.is("14: the last TIME", town.covered(last), last);
            DUE.is("19: the last TIME, then 0", town.strokesTill(last, 1, true), 1);
            DUE.is("20: the last TIME", town.strokes(last, last, true), 0);
            DUE.is("23: the last TIME later", town.towers(last, false, 0), 0);
            DUE.is("31: the last TICK, no CLOCKS", town.most(last, 0), -2);
            DUE.is("33: the last TICK, no CLOCKS", town.spread(last), 0);
        }
    }

    private static void promise7() {
        HandsAlike six = six();
        int[] whats = {LOW, -1, 6, HIGH};
        for (int what : whats) {
            DUE.is("7: no such what " + what, six.reads(0, what), -1);
        }
        DUE.is("7: SHORT is whole", six.reads(5, 0), 0);
        DUE.is("7: SHORT, one more", six.reads(6, 0), 1);
        DUE.is("7: LONG goes round", six.reads(3, 1) * 10 + six.reads(4, 1), 30);
        DUE.is("7: itself, too", six.reads(9, 2), 1);
        DUE.is("7: alike, whichever at which", six.reads(20, 2), 2);
        DUE.is("7: many alike", six.reads(17, 2), 4);
        DUE.is("7: the next one", six.reads(6, 3), 10);
        DUE.is("7: the next one, whichever at which", six.reads(10, 3), 13);
        DUE.is("7: the next one, round", six.reads(17, 3), 6);
        DUE.is("7: none: itself", six.reads(9, 3), 9);
        DUE.is("7: in a mirror 0 is at 0", six.reads(4, 4), 0);
        DUE.is("7: in a mirror half D is there", six.reads(14, 4), 14);
        DUE.is("7: in a mirror the lowest, whichever at which", six.reads(20, 4), 1);
        DUE.is("7: in a mirror none", smallest().reads(1, 4), -2);
        DUE.is("7: apart half D", six.reads(2, 5), 2);
        DUE.is("7: apart the shorter way, LONG ahead", six.reads(3, 5), 1);
        DUE.is("7: apart the shorter way, SHORT ahead", six.reads(20, 5), 1);
        HandsAlike odd = town(5, 2);
        // SHORT LONG: 00 01 12 13 24 20 31 32 43 44
        DUE.is("7: of odd MARKS 2 is the most", odd.reads(4, 5), 2);
        DUE.is("7: of odd MARKS 2, the other way", odd.reads(6, 5), 2);
    }

    private static void promise8() {
        HandsAlike six = six();
        int[] due = {0, 8, 12, 20, 0, 8, 13, 21, 1, 9, 13, 21, 2, 6, 14, 18, 2, 6, 15, 19, 3, 7, 15, 19};
        for (int time = 0; time < due.length; time++) {
            DUE.is("8: the lowest exchanged of " + time, six.exchanged(time), due[time]);
        }
        DUE.is("8: none", smallest().exchanged(1), -2);
        DUE.is("8: itself", smallest().exchanged(7), 7);
    }

    private static void promise9() {
        HandsAlike six = six();
        DUE.is("9: all are like some TIME", six.mirrors(0), 24);
        // 0 4, 2 12 16, 14, 7 11 21
        DUE.is("9: like themselves, whichever at which", six.mirrors(1), 9);
        int[] whats = {LOW, -1, 2, HIGH};
        for (int what : whats) {
            DUE.is("9: no such what " + what, six.mirrors(what), -1);
        }
    }

    private static void promise10() {
        HandsAlike town = smallest();
        int[] marks = {LOW, 0, 3, 61, HIGH};
        for (int m : marks) {
            DUE.is("10: no such MARKS " + m, town.bestDial(m, 0), -1);
            DUE.is("10: no such MARKS, how many " + m, town.bestDial(m, 1), -1);
        }
        int[] whats = {LOW, -1, 2, HIGH};
        for (int what : whats) {
            DUE.is("10: no such what " + what, town.bestDial(60, what), -1);
        }
        DUE.is("10: 4 MARKS", town.bestDial(4, 0) * 10 + town.bestDial(4, 1), 22);
        DUE.is("10: 60 MARKS", town.bestDial(60, 0) * 10 + town.bestDial(60, 1), 24);
        // of R 2 it is 4 of 12, of R 3 6 of 18
        DUE.is("10: R 2 of 6 MARKS", town(6, 2).untold(0), 4);
        DUE.is("10: R 3 of 6 MARKS, as few", town(6, 3).untold(0), 6);
        DUE.is("10: of like ones the lowest R", town.bestDial(6, 0), 2);
        DUE.is("10: how many can't", town.bestDial(6, 1), 4);
        DUE.is("10: asked again", town.bestDial(6, 0), 2);
        for (int other = 4; other <= 60; other++) {
            DUE.is("10: the R of " + other + " MARKS", town.bestDial(other, 0), fewestUntold(other));
        }
        DUE.is("10: THE DIAL stays", town.count(3) * 100 + town.count(4), 402);
        DUE.is("10: its TIMES stay", town.untold(0), 2);
    }

    /** The R by which the fewest can't be told, by all DIALS one behind the other. */
    private static int fewestUntold(int marks) {
        HandsAlike town = new HandsAlike();
        int best = 0;
        long fewest = 0;
        for (int turns = 2; turns <= 24; turns++) {
            town.dial(marks, turns);
            long many = town.untold(0);
            if (best == 0 || many * best < fewest * turns) {
                best = turns;
                fewest = many;
            }
        }
        return best;
    }

    private static void promise11() {
        HandsAlike six = six();
        int[] whats = {LOW, -1, 4, HIGH};
        for (int what : whats) {
            DUE.is("11: no such what " + what, six.untold(what), -1);
        }
        DUE.is("11: how many", six.untold(0), 22);
        DUE.is("11: the first", six.untold(1), 0);
        DUE.is("11: the longest row, round: 15 to 8", six.untold(2), 18);
        DUE.is("11: the longest row told", six.untold(3), 1);
        DUE.is("11: the longest row told, round: 6 to 1", smallest().untold(3), 4);
        HandsAlike full = town(4, 24);
        DUE.is("11: all: R D", full.untold(2), 96);
        DUE.is("11: no row told", full.untold(3), 0);
        // the document has -2 for a DIAL all of whose TIMES can be told; there is none
        for (int marks = 4; marks <= 60; marks++) {
            for (int turns = 2; turns <= 24; turns++) {
                full.dial(marks, turns);
                int first = full.untold(1);
                DUE.is("11: there is a first on " + marks + " " + turns, full.reads(first, 2) > 1, true);
            }
        }
    }

    private static void promise12() {
        HandsAlike six = six();
        DUE.is("12: 0: it can", six.till(9), 0);
        DUE.is("12: the next can", six.till(8), 1);
        DUE.is("12: round", six.till(15), 18);
        DUE.is("12: from the last on, round", six.till(23), 10);
        HandsAlike full = town(4, 24);
        DUE.is("12: none can be TOLD", full.till(0), -2);
        DUE.is("12: none can be TOLD from the last on", full.till(95), -2);
        DUE.is("12: NONE is ahead of -2", full.till(96), -1);
    }

    private static void promise13() {
        HandsAlike six = six();
        DUE.is("13: is there no other: 1", six.glance(9), 1);
        // 15 18 22: one TICK later 20 33 33, two later 21 30 00
        DUE.is("13: round", six.glance(22), 2);
        DUE.is("13: another one is told at once", six.glance(15), 1);
        DUE.is("13: late", town(4, 24).glance(0), 20);
        DUE.is("13: none tells", town(4, 24).glance(4), -2);
    }

    private static void promise14() {
        HandsAlike six = six();
        // 0 4 9 14 19 23
        DUE.is("14: how many", six.covered(-1), 6);
        DUE.is("14: itself", six.covered(0), 0);
        DUE.is("14: the next one", six.covered(1), 4);
        DUE.is("14: the last one", six.covered(20), 23);
        DUE.is("14: itself, the last", six.covered(23), 23);
        DUE.is("14: below -1", six.covered(-2), -1);
        DUE.is("14: low", six.covered(LOW), -1);
        DUE.is("14: behind the last TIME", six.covered(24), -1);
    }

    private static void promise15() {
        HandsAlike six = six();
        DUE.is("15: below 0", six.apart(-1), -1);
        DUE.is("15: low", six.apart(LOW), -1);
        DUE.is("15: 31", six.apart(31), -1);
        DUE.is("15: high", six.apart(HIGH), -1);
        DUE.is("15: 0", six.apart(0), 6);
        // 02: 2 12 16; 13: 7 11 21
        DUE.is("15: half D", six.apart(2), 6);
        DUE.is("15: the rest", six.apart(1), 12);
        DUE.is("15: more than half D", six.apart(3), 0);
        DUE.is("15: 30 of few MARKS", six.apart(30), 0);
        DUE.is("15: 30 of 60", new HandsAlike().apart(30), 12);
    }

    private static void promise16Numbers() {
        HandsAlike town = smallest();
        DUE.is("16: an empty tape", town.photographs(1, 0, 0, 100), -1);
        Due.feed(town, new int[16]);
        int[][] wrong = {
            {0, 0, 0, 100}, {9, 0, 0, 100}, {-1, 0, 0, 100}, {LOW, 0, 0, 100}, {HIGH, 0, 0, 100},
            {1, -1, 0, 100}, {1, LOW, 0, 100}, {1, 100, 100, 100}, {1, 0, 100, 100}, {1, 0, HIGH, 100},
            {1, 1, 0, 100}, {1, 99, 98, 100}, {1, 0, -1, 100},
            {1, 0, 0, 1}, {8, 0, 0, 8}, {1, 0, 0, -1}, {1, 0, 0, 99}, {1, 0, 0, 101}, {1, 0, 0, LOW}, {1, 0, 0, HIGH},
        };
        for (int[] w : wrong) {
            DUE.is("16: no such ones " + w[0] + " " + w[1] + " " + w[2] + " " + w[3],
                town.photographs(w[0], w[1], w[2], w[3]), -1);
            DUE.is("16: the tape stays", town.count(6), 20);
        }
        DUE.is("16: eight, 0 TICKS", town.photographs(8, 0, 0, 100), 1);
        DUE.is("16: empty then", town.count(6), 0);
        Due.feed(town, new int[16]);
        DUE.is("16: the last of eight", town.photographs(8, 0, 0, 7), 0);
        DUE.is("16: one", Due.photographs(town, 99, 99, 0, 3, 3), 7);
        DUE.is("16: least 99, most 99: three TICKS and rounds", Due.photographs(town, 99, 99, 1, 0, 0, 1, 3), 3);
        DUE.is("16: 98 are two", Due.photographs(town, 98, 98, 100, 0, 0, 1, 3), 0);
    }

    private static void promise16Marks() {
        HandsAlike town = smallest();
        DUE.is("16: the last MARK", Due.photographs(town, 0, 0, 100, 3, 3), 1);
        DUE.is("16: a MARK there is not", Due.photographs(town, 0, 0, 100, 4, 3), -3);
        DUE.is("16: empty then, too", town.count(6), 0);
        DUE.is("16: the second MARK", Due.photographs(town, 0, 0, 100, 3, 4), -3);
        DUE.is("16: 255", Due.photographs(town, 0, 0, 0, 255, 0), -3);
        DUE.is("16: of the last one", Due.photographs(town, 0, 0, 100, 0, 0, 0, 0, 0, 0, 0, 0, 0, 0, 0, 0, 0, 0, 0, 4), -3);
        DUE.is("16: -3 is ahead of -4", Due.photographs(town, 0, 0, 0, 0, 3, 4, 4), -3);
        Due.feed(town, 3, 3, 4, 4);
        DUE.is("16: only the first 2 n bytes", town.photographs(1, 0, 0, 100), 1);
        Due.feed(town, 4, 4);
        DUE.is("16: NONE is ahead of -3", town.photographs(0, 0, 0, 100), -1);
        DUE.is("16: and the tape stays", town.count(6), 20);
        town.dial(60, 2);
        DUE.is("16: 59", town.photographs(1, 0, 0, 100), 0);
        DUE.is("16: 59 and 59", Due.photographs(town, 0, 0, 0, 59, 59), 119);
        DUE.is("16: 60", Due.photographs(town, 0, 0, 0, 59, 60), -3);
    }

    private static void promise16Rows() {
        HandsAlike town = smallest();
        DUE.is("16: round: behind 7 comes 0", Due.photographs(town, 1, 1, 100, 3, 3, 0, 0), 1);
        DUE.is("16: round, the first", Due.photographs(town, 1, 1, 0, 3, 3, 0, 0), 7);
        DUE.is("16: round, the second", Due.photographs(town, 1, 1, 1, 3, 3, 0, 0), 0);
        DUE.is("16: not so soon", Due.photographs(town, 2, 8, 100, 3, 3, 0, 0), 0);
        DUE.is("16: a round later again", Due.photographs(town, 2, 9, 100, 3, 3, 0, 0), 1);
        DUE.is("16: however many TICKS, one row", Due.photographs(town, 1, 99, 100, 3, 3, 0, 0), 1);
        DUE.is("16: 7 TICKS are not round", Due.photographs(town, 1, 7, 100, 0, 0, 0, 0), 0);
        DUE.is("16: 8 TICKS are", Due.photographs(town, 1, 8, 100, 0, 0, 0, 0), 1);
        DUE.is("16: not sure", Due.photographs(town, 0, 0, 0, 2, 1), -2);
        DUE.is("16: none: it can't be", Due.photographs(town, 0, 0, 0, 0, 3), -4);
        DUE.is("16: none: in no row", Due.photographs(town, 0, 0, 100, 0, 3), 0);
        DUE.is("16: one of the row can't be", Due.photographs(town, 0, 99, 0, 0, 0, 0, 3), -4);
        // more than 12 to the eighth can't be, so a billion is never passed
        town.dial(4, 24);
        int[] eight = {0, 1, 1, 0, 0, 1, 1, 0, 0, 1, 1, 0, 0, 1, 1, 0};
        DUE.is("16: the most rows", Due.photographs(town, 0, 99, 100, eight), 429981696);
        DUE.is("16: not sure among the most rows", Due.photographs(town, 0, 99, 7, eight), -2);
    }

    private static void promise17() {
        HandsAlike town = smallest();
        DUE.is("17: an empty tape", town.anyOrder(1, 0, 0, 0), -1);
        Due.feed(town, new int[12]);
        int[][] wrong = {
            {0, 0, 0, 0}, {7, 0, 0, 0}, {-1, 0, 0, 0}, {LOW, 0, 0, 0}, {HIGH, 0, 0, 0}, {1, -1, 0, 0}, {1, 100, 100, 0},
            {1, 0, 100, 0}, {1, 1, 0, 0}, {1, 99, 98, 0}, {1, 0, 0, -1}, {1, 0, 0, 2}, {1, 0, 0, 100}, {1, LOW, HIGH, 0},
        };
        for (int[] w : wrong) {
            DUE.is("17: no such ones " + w[0] + " " + w[1] + " " + w[2] + " " + w[3], town.anyOrder(w[0], w[1], w[2], w[3]), -1);
            DUE.is("17: the tape stays", town.count(6), 20);
        }
        DUE.is("17: six like ones are unlike", town.anyOrder(6, 0, 0, 0), 720);
        DUE.is("17: empty then", town.count(6), 0);
        DUE.is("17: each can be the first", Due.anyOrder(town, 0, 0, 1, 0, 0, 0, 0, 0, 0, 0, 0, 0, 0, 0, 0), 63);
        DUE.is("17: one", Due.anyOrder(town, 99, 99, 0, 1, 2), 2);
        DUE.is("17: one, the first", Due.anyOrder(town, 99, 99, 1, 1, 2), 1);
        DUE.is("17: none", Due.anyOrder(town, 1, 7, 0, 0, 0, 0, 0), 0);
        DUE.is("17: none first", Due.anyOrder(town, 1, 7, 1, 0, 0, 0, 0), 0);
        DUE.is("17: round: 7, then 0", Due.anyOrder(town, 1, 1, 1, 0, 0, 3, 3), 2);
        DUE.is("17: a MARK there is not", Due.anyOrder(town, 0, 0, 0, 0, 4), -3);
        DUE.is("17: empty then, too", town.count(6), 0);
        DUE.is("17: of the last one", Due.anyOrder(town, 0, 0, 1, 0, 0, 0, 0, 0, 0, 0, 0, 0, 0, 4, 0), -3);
        Due.feed(town, 0, 0, 4, 4);
        DUE.is("17: only the first 2 n bytes", town.anyOrder(1, 0, 0, 0), 1);
        Due.feed(town, 4, 4);
        DUE.is("17: NONE is ahead of -3", town.anyOrder(1, 0, 0, 2), -1);
        town.dial(4, 24);
        town.check(0);
        // 5! times 12 to the fifth; of six it would be 2149908480
        DUE.is("17: of five", Due.anyOrder(town, 0, 99, 0, 0, 1, 0, 1, 0, 1, 0, 1, 0, 1), 29859840);
        DUE.is("17: 1000000000 at most", Due.anyOrder(town, 0, 99, 0, 0, 1, 0, 1, 0, 1, 0, 1, 0, 1, 0, 1), 1000000000);
        DUE.is("17: each first of them", Due.anyOrder(town, 0, 99, 1, 0, 1, 0, 1, 0, 1, 0, 1, 0, 1, 0, 1), 63);
    }

    private static void promise18() {
        DUE.is("18: the fewest MARKS", smallest().quiet(false), 4);
        DUE.is("18: the fewest MARKS, halves", smallest().quiet(true), 2);
        DUE.is("18: the most MARKS", town(60, 24).quiet(false), 60);
        DUE.is("18: the most MARKS, halves", town(60, 24).quiet(true), 30);
        DUE.is("18: odd MARKS: from the half on", town(5, 2).quiet(true), 3);
        DUE.is("18: odd MARKS", town(59, 24).quiet(true), 30);
    }

    private static void promise19() {
        HandsAlike town = smallest();
        int[] wrong = {LOW, -1, 0, 10000, HIGH};
        for (int many : wrong) {
            DUE.is("19: not so many " + many, town.strokesTill(0, many, false), -1);
        }
        DUE.is("19: 0: at it", town.strokesTill(0, 1, false), 0);
        DUE.is("19: at it, as many as there are", town.strokesTill(0, 2, false), 0);
        DUE.is("19: or more", town.strokesTill(4, 2, false), 4);
        DUE.is("19: round", town.strokesTill(7, 1, false), 1);
        DUE.is("19: round and on", town.strokesTill(7, 3, false), 5);
        DUE.is("19: just a round", town.strokesTill(0, 3, false), 4);
        DUE.is("19: more than a round", town.strokesTill(0, 4, false), 8);
        // 3 in a round: the last of 3333 rounds is full at its TIME 4
        DUE.is("19: 9999", town.strokesTill(0, 9999, false), 3332 * 8 + 4);
        DUE.is("19: 9998", town.strokesTill(0, 9998, false), 3332 * 8);
        DUE.is("19: 9999 from behind 0 on", town.strokesTill(1, 9999, false), 3332 * 8 + 7);
        // 300 in a round (1 to 24): 33 rounds are 9900, then 24 1 2 .. 12 make 102
        DUE.is("19: 9999 of 24", town(60, 24).strokesTill(0, 9999, false), 33 * 1440 + 12 * 60);
        DUE.is("19: halves count", town(60, 24).strokesTill(1, 1, true), 29);
    }

    private static void promise20() {
        HandsAlike town = smallest();
        DUE.is("20: an earlier TIME", town.strokes(1, 0, true), -1);
        DUE.is("20: from the last to 0", town.strokes(7, 0, true), -1);
        DUE.is("20: one TIME, at 0 R", town.strokes(0, 0, true), 2);
        DUE.is("20: one TIME, none", town.strokes(1, 1, true), 0);
        DUE.is("20: one TIME, a half", town.strokes(2, 2, true), 1);
        DUE.is("20: one TIME, a half that is not struck", town.strokes(2, 2, false), 0);
        DUE.is("20: both with", town.strokes(2, 4, true), 2);
        DUE.is("20: all but 0", town.strokes(1, 7, true), 3);
        DUE.is("20: all", town.strokes(0, 7, true), 5);
        DUE.is("20: the most", town(60, 24).strokes(0, 1439, true), 324);
        HandsAlike odd = town(5, 2);
        DUE.is("20: half of odd MARKS is whole", odd.strokes(2, 2, true) * 10 + odd.strokes(3, 3, true), 10);
        DUE.is("20: half behind the next one", odd.strokes(7, 7, true) * 10 + odd.strokes(8, 8, true), 10);
    }

    private static void promise21() {
        HandsAlike town = smallest();
        DUE.is("21: an empty tape", town.heard(1, false, 0), -1);
        Due.feed(town, 2, 1, 2, 1, 2, 1, 2, 1, 2, 1, 2, 1, 2);
        int[] wrong = {LOW, -1, 0, 13, HIGH};
        for (int n : wrong) {
            DUE.is("21: no such n " + n, town.heard(n, false, 0), -1);
        }
        int[] whats = {LOW, -1, 2, HIGH};
        for (int what : whats) {
            DUE.is("21: no such what " + what, town.heard(1, false, what), -1);
        }
        DUE.is("21: the tape stays", town.count(6), 20);
        DUE.is("21: twelve, more than there are in a round", town.heard(12, false, 1), 4);
        DUE.is("21: empty then", town.count(6), 0);
        DUE.is("21: none", Due.heard(town, false, 1, 2, 2), -4);
        DUE.is("21: none can be the first", Due.heard(town, false, 0, 2, 2), 0);
        DUE.is("21: empty then, too", town.count(6), 0);
        DUE.is("21: 255 strokes", Due.heard(town, false, 1, 255), -4);
        DUE.is("21: no strokes", Due.heard(town, false, 1, 0), -4);
        DUE.is("21: several", Due.heard(town, true, 1, 1, 1), -2);
        DUE.is("21: so many", Due.heard(town, true, 0, 1, 1), 2);
        DUE.is("21: one alone", Due.heard(town, true, 1, 1, 1, 1), 6);
        DUE.is("21: round", Due.heard(town, true, 1, 1, 2), 0);
        DUE.is("21: round and on", Due.heard(town, true, 1, 1, 2, 1), 2);
        Due.feed(town, 1, 9);
        DUE.is("21: only the first n bytes", town.heard(1, false, 1), 4);
        HandsAlike first = new HandsAlike();
        DUE.is("21: all of a round", Due.heard(first, false, 1, 12, 1, 2, 3, 4, 5, 6, 7, 8, 9, 10, 11), 660);
        DUE.is("21: past 0", Due.heard(first, false, 1, 11, 12, 1), 60);
    }

    private static void promise22() {
        DUE.is("22: the fewest", smallest().listen(false), 1);
        DUE.is("22: of 24", town(60, 24).listen(false), 1);
        // 2 1 1 1: two are not enough (1 1, 1 1)
        DUE.is("22: halves, of four strikes", smallest().listen(true), 3);
        // 3 1 1 1 2 1
        DUE.is("22: halves, of six strikes", town(4, 3).listen(true), 3);
        DUE.is("22: halves, of 48 strikes", town(60, 24).listen(true), 3);
    }

    private static void promise23() {
        HandsAlike town = smallest();
        int[] whats = {LOW, -1, 2, HIGH};
        for (int what : whats) {
            DUE.is("23: no such what " + what, town.towers(0, false, what), -1);
        }
        DUE.is("23: 0 later: each strike", town.towers(0, false, 0), 2);
        DUE.is("23: 0 later: twice R", town.towers(0, false, 1), 4);
        DUE.is("23: 7 later, with halves never", town.towers(7, true, 0), 0);
        DUE.is("23: one strikes alone", town.towers(7, true, 1), 2);
        DUE.is("23: 6 later, round", town.towers(6, true, 0), 4);
        DUE.is("23: 6 later, a half and R", town.towers(6, true, 1), 3);
        HandsAlike first = new HandsAlike();
        DUE.is("23: later, round: 12 and 11", first.towers(60, false, 1), 23);
        DUE.is("23: as much earlier: 11 and 12", first.towers(660, false, 1), 23);
        DUE.is("23: the last TICK", first.towers(719, false, 0), 0);
        DUE.is("23: the last TICK, most", first.towers(719, false, 1), 12);
    }

    private static void promise24() {
        HandsAlike town = smallest();
        int[][] wrong = {{5, 9, 0}, {5, 40, 1}, {6, 41, 0}, {9, 8, 0}, {40, 39, 1}, {41, 41, 0}, {6, 9, -1}, {6, 9, 2},
            {LOW, 9, 0}, {6, HIGH, 0}, {0, 0, 0}};
        for (int[] w : wrong) {
            DUE.is("24: no such ones " + w[0] + " " + w[1] + " " + w[2], town.wheels(w[0], w[1], w[2]), -1);
        }
        DUE.is("24: least is most", town.wheels(6, 6, 0), 0);
        DUE.is("24: least is most, no way", town.wheels(6, 6, 1), -2);
        DUE.is("24: 40 teeth each", town.wheels(40, 40, 0), 0);
        // 29 29 by no two of the others: twice 29 times 29 is past 40 times 40
        DUE.is("24: 29 and on", town.wheels(29, 40, 1), -2);
        // 28 28 drive 1568, which no two of 28 to 40 make but 39.2 40
        DUE.is("24: 28 and on", town.wheels(28, 40, 0), 0);
        // by products: 72 4, 84 4, 96 4, 108 4, 120 4, 132 4, 144 2 and 2
        DUE.is("24: twelve teeth at most", town.wheels(6, 12, 0), 28);
        DUE.is("24: only 6 6 drive 12 12", town(60, 4).wheels(6, 12, 0), 1);
        DUE.is("24: only one way, in all", town(60, 4).wheels(6, 12, 1), 36);
        HandsAlike most = town(60, 24);
        // 6 6 drive 864: 27 times 32
        DUE.is("24: 31 teeth do not do", most.wheels(6, 31, 0), 0);
        DUE.is("24: 31 teeth, no way", most.wheels(6, 31, 1), -2);
        DUE.is("24: 32 teeth", most.wheels(6, 32, 0), 2);
        DUE.is("24: 32 teeth, in all", most.wheels(6, 32, 1), 71);
        DUE.is("24: of all teeth the fewest", most.wheels(6, 40, 1), 71);
    }

    /** What was asked before leaves nothing behind. */
    private static void askedBefore() {
        HandsAlike six = six();
        six.glance(2);
        DUE.is("13: behind another glance", six.glance(9), 1);
        HandsAlike town = town(4, 24);
        // 0 1: 1 5 .. 21 and 24 28 .. 44; 0 0: 0 4 .. 20
        int[] eight = {0, 1, 0, 1, 0, 1, 0, 1, 0, 1, 0, 1, 0, 1, 0, 1};
        DUE.is("16: rows of eight", Due.photographs(town, 0, 0, 100, eight), 12);
        DUE.is("16: again", Due.photographs(town, 0, 0, 100, eight), 12);
        DUE.is("16: not sure, of eight", Due.photographs(town, 0, 0, 7, eight), -2);
        DUE.is("16: not sure, of eight again", Due.photographs(town, 0, 0, 7, eight), -2);
        DUE.is("16: none, behind those", Due.photographs(town, 0, 0, 1, 0, 0, 0, 1), -4);
        DUE.is("16: no row, behind those", Due.photographs(town, 0, 0, 100, 0, 0, 0, 1), 0);
        DUE.is("16: the later half of the first", Due.photographs(town, 72, 72, 1, 0, 1, 0, 0), -2);
        DUE.is("16: six rows", Due.photographs(town, 72, 72, 100, 0, 1, 0, 0), 6);
        DUE.is("17: six, behind eight", Due.anyOrder(town, 0, 0, 0, 0, 0, 0, 0, 0, 0, 0, 0, 0, 0, 0, 0), 720 * 6);
        DUE.is("17: bits of six, behind eight", Due.anyOrder(town, 0, 0, 1, 0, 0, 0, 0, 0, 0, 0, 0, 0, 0, 0, 0), 63);
        DUE.is("17: one, behind eight", Due.anyOrder(town, 0, 0, 0, 0, 0), 6);
        DUE.is("17: bits of one, behind eight", Due.anyOrder(town, 0, 0, 1, 0, 0), 1);
        DUE.is("17: none, behind eight", Due.anyOrder(town, 1, 1, 1, 0, 0, 0, 0), 0);
        town.dial(4, 2);
        DUE.is("16: on another DIAL", Due.photographs(town, 0, 0, 100, 0, 1), 1);
    }
}
