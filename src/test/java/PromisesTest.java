/** Each promise by answers worked out by hand: ordinary ones, the edges the document names, wrong inputs. */
public final class PromisesTest {
    private static final int LOW = Integer.MIN_VALUE;
    private static final int HIGH = Integer.MAX_VALUE;
    private static final Due DUE = new Due();

    public static void main(String[] args) {
        aNewObject();
        dials();
        tapes();
        readings();
        untoldTimes();
        glances();
        coveredAndApart();
        photographs();
        anyOrder();
        strikes();
        towersAndWheels();
        clocksOfADay();
        agreeing();
        atATick();
        setBy();
        appointments();
        daysGoBy();
        lettersOfTheLaw();
        rulesOfTheLaw();
        refusedAndWhatMatters();
        lastDay();
        triedAndTogether();
        keptAndUndone();
        checks();
        counts();
        DUE.end("PromisesTest");
    }

    private static HandsAlike small() {
        // TIMES 0 to 7, SHORT LONG: 00 01 12 13 20 21 32 33
        HandsAlike town = new HandsAlike();
        town.dial(4, 2);
        return town;
    }

    private static void aNewObject() {
        HandsAlike town = new HandsAlike();
        int[] due = {0, 0, 0, 60, 12, 0, 0, 1, 0};
        for (int what = 0; what < due.length; what++) {
            DUE.is("new count " + what, town.count(what), due[what]);
        }
        DUE.is("NONE", HandsAlike.NONE, -1);
        DUE.is("nothing kept", town.undo(), false);
        DUE.is("no clock", town.clockIs(0, 0), -1000);
        DUE.is("no appointment", town.appointment(0, 0), -1);
        HandsAlike other = new HandsAlike();
        other.dial(5, 5);
        DUE.is("objects are apart", town.count(3), 60);
    }

    private static void dials() {
        HandsAlike town = new HandsAlike();
        int[][] wrong = {{3, 12}, {61, 12}, {60, 1}, {60, 25}, {LOW, 2}, {HIGH, 2}, {4, LOW}, {4, HIGH}};
        Due.clocks(town, "a@1");
        Due.book(town, "ab@1:1");
        Due.law(town, "x(1=1)");
        for (int[] w : wrong) {
            DUE.is("dial " + w[0] + " " + w[1], town.dial(w[0], w[1]), false);
        }
        DUE.is("a refused dial changes nothing", town.count(1) * 10 + town.count(2), 11);
        town.days(3);
        town.feed(1, 2, 3, 4, 5);
        int x = town.count(7);
        int[][] right = {{4, 2}, {60, 24}, {4, 24}, {60, 2}};
        for (int[] w : right) {
            DUE.is("dial " + w[0] + " " + w[1], town.dial(w[0], w[1]), true);
            DUE.is("MARKS", town.count(3), w[0]);
            DUE.is("R", town.count(4), w[1]);
        }
        DUE.is("no CLOCKS", town.count(1), 0);
        DUE.is("no BOOK", town.count(2), 0);
        DUE.is("THE LAW stays", town.count(5), 1);
        DUE.is("THE DAY stays", town.count(0), 3);
        DUE.is("the tape stays", town.count(6), 20);
        DUE.is("X stays", town.count(7), x);
        Due.clocks(town, "b@2");
        town.dial(60, 2);
        DUE.is("the same dial is a new one, too", town.count(1), 0);
    }

    private static void tapes() {
        HandsAlike town = new HandsAlike();
        for (int i = 1; i <= 13; i++) {
            DUE.is("feed " + i, town.feed(-1, -1, -1, -1, -1), 20 * i);
        }
        DUE.is("feed 14", town.feed(0, 0, 0, 0, 0), -1);
        DUE.is("tape is full", town.count(6), 260);
        DUE.is("law 241", town.law(241), -1);
        DUE.is("law 0", town.law(0), -1);
        DUE.is("law low", town.law(LOW), -1);
        DUE.is("law high", town.law(HIGH), -1);
        DUE.is("clocks 121", town.clocks(121), -1);
        DUE.is("clocks 0", town.clocks(0), -1);
        DUE.is("book 161", town.book(161), -1);
        DUE.is("book 0", town.book(0), -1);
        DUE.is("tape stays", town.count(6), 260);
        DUE.is("law 240", town.law(240), -1000);
        DUE.is("a fault empties the tape", town.count(6), 0);
        Due.feed(town, new int[120]);
        DUE.is("clocks 120", town.clocks(120), -1000);
        Due.feed(town, new int[160]);
        DUE.is("book 160", town.book(160), -1000);
        DUE.is("clocks of an empty tape", town.clocks(1), -1);
        town.feed(0, 0, 0, 0, 0);
        DUE.is("law of more than there are", town.law(21), -1);
        DUE.is("clocks of more than there are", town.clocks(21), -1);
        DUE.is("book of more than there are", town.book(21), -1);
        DUE.is("heard of more than there are", town.check(8), 0);
        town.feed(0x01020304, 0x05060708, 0, 0, 0x000000ff);
        DUE.is("the highest byte first", town.heard(12, false, 0), 0);
        Due.feed(town, 12, 1, 2, 3);
        DUE.is("in their order", town.heard(4, false, 1), 180);
        DUE.is("empty then", town.count(6), 0);
    }

    private static void readings() {
        HandsAlike town = small();
        int[][] due = {
            {0, 0, 0, 1, 1, 2, 2, 3, 3}, {1, 0, 1, 2, 3, 0, 1, 2, 3}, {2, 1, 1, 2, 1, 1, 2, 1, 1},
            {3, 0, 1, 5, 3, 4, 2, 6, 7}, {4, 0, -2, 6, 3, 4, 6, 2, -2}, {5, 0, 1, 1, 2, 2, 1, 1, 0},
        };
        for (int[] row : due) {
            for (int time = 0; time < 8; time++) {
                DUE.is("reads " + time + " " + row[0], town.reads(time, row[0]), row[time + 1]);
            }
        }
        int[] times = {-1, 8, LOW, HIGH};
        for (int time : times) {
            DUE.is("reads " + time, town.reads(time, 0), -1);
            DUE.is("exchanged " + time, town.exchanged(time), -1);
            DUE.is("till " + time, town.till(time), -1);
            DUE.is("glance " + time, town.glance(time), -1);
            DUE.is("spread " + time, town.spread(time), -1);
        }
        DUE.is("reads what -1", town.reads(0, -1), -1);
        DUE.is("reads what 6", town.reads(0, 6), -1);
        int[] exchanged = {0, -2, 5, -2, -2, 2, -2, 7};
        for (int time = 0; time < 8; time++) {
            DUE.is("exchanged " + time, town.exchanged(time), exchanged[time]);
        }
        DUE.is("mirrors 0", town.mirrors(0), 6);
        DUE.is("mirrors 1", town.mirrors(1), 3);
        DUE.is("mirrors -1", town.mirrors(-1), -1);
        DUE.is("mirrors 2", town.mirrors(2), -1);
        town.dial(4, 24);
        DUE.is("many look alike", town.reads(1, 2), 12);
        DUE.is("the next of many", town.reads(1, 3), 5);
        DUE.is("the next of many, round", town.reads(21, 3), 24);
        DUE.is("the next behind the last", town.reads(44, 3), 1);
        DUE.is("the next behind the last, one MARK", town.reads(20, 3), 0);
        DUE.is("the lowest in a mirror", town.reads(9, 4), 3);
        DUE.is("the lowest exchanged", town.exchanged(9), 24);
    }

    private static void untoldTimes() {
        HandsAlike town = small();
        int[] due = {2, 2, 1, 4};
        int[] large = {132, 5, 1, 10};
        int[] none = {96, 0, 96, 0};
        HandsAlike first = new HandsAlike();
        HandsAlike full = new HandsAlike();
        full.dial(4, 24);
        for (int what = 0; what < 4; what++) {
            DUE.is("untold " + what, town.untold(what), due[what]);
            DUE.is("untold of 60, 12 " + what, first.untold(what), large[what]);
            DUE.is("untold of 4, 24 " + what, full.untold(what), none[what]);
        }
        DUE.is("untold -1", town.untold(-1), -1);
        DUE.is("untold 4", town.untold(4), -1);
        DUE.is("till 2", town.till(2), 1);
        DUE.is("till 3", town.till(3), 0);
        DUE.is("till: none can be told", full.till(5), -2);
        // SHORT LONG: 00 01 02 13 10 11 22 23 20 31 32 33; all but 0, 5, 6, 11 have one that looks alike
        town.dial(4, 3);
        int[] till = {0, 4, 3, 2, 1, 0, 0, 4, 3, 2, 1, 0};
        int[] seen = {1, 2, 2, 2, 2, 1, 1, 2, 2, 2, 2, 1};
        for (int time = 0; time < 12; time++) {
            DUE.is("4, 3 alike " + time, town.reads(time, 2), seen[time]);
        }
        for (int time = 0; time < 12; time++) {
            DUE.is("4, 3 till " + time, town.till(time), till[time]);
        }
        DUE.is("4, 3 the longest row", town.untold(2), 4);
        DUE.is("4, 3 the longest row told, round", town.untold(3), 2);
        DUE.is("best of 4", town.bestDial(4, 0), 2);
        DUE.is("best of 4, how many", town.bestDial(4, 1), 2);
        DUE.is("best of 60", town.bestDial(60, 0), 2);
        DUE.is("best of 60, how many", town.bestDial(60, 1), 4);
        DUE.is("the dial stays", town.count(3), 4);
        int[][] wrong = {{3, 0}, {61, 0}, {4, -1}, {4, 2}, {LOW, 0}, {HIGH, 1}};
        for (int[] w : wrong) {
            DUE.is("best dial " + w[0] + " " + w[1], town.bestDial(w[0], w[1]), -1);
        }
    }

    private static void glances() {
        HandsAlike town = small();
        DUE.is("no other", town.glance(0), 1);
        DUE.is("at once", town.glance(2), 1);
        town.dial(4, 24);
        // 0, 4 .. 20 look alike; only when 24 is past for all but 0 it is told
        DUE.is("later", town.glance(0), 20);
        DUE.is("never: 0 and 8 can't both be told from 4", town.glance(4), -2);
    }

    private static void coveredAndApart() {
        HandsAlike town = small();
        DUE.is("covered", town.covered(-1), 2);
        DUE.is("covered 0", town.covered(0), 0);
        DUE.is("covered 1", town.covered(1), 7);
        DUE.is("covered 7", town.covered(7), 7);
        DUE.is("covered -2", town.covered(-2), -1);
        DUE.is("covered 8", town.covered(8), -1);
        DUE.is("covered low", town.covered(LOW), -1);
        DUE.is("apart 0", town.apart(0), 2);
        DUE.is("apart 1", town.apart(1), 4);
        DUE.is("apart 2", town.apart(2), 2);
        DUE.is("apart 3", town.apart(3), 0);
        DUE.is("apart 30", town.apart(30), 0);
        DUE.is("apart 31", town.apart(31), -1);
        DUE.is("apart -1", town.apart(-1), -1);
        HandsAlike first = new HandsAlike();
        DUE.is("round to 0", first.covered(655), 719);
        int all = 0;
        for (int marks = 0; marks <= 30; marks++) {
            all += first.apart(marks);
        }
        DUE.is("each is apart", all, 720);
        DUE.is("30 apart", first.apart(30), 12);
        first.dial(5, 2);
        // SHORT LONG: 00 01 12 13 24 20 31 32 43 44; of 0 and 9 they are at one MARK
        DUE.is("round", first.covered(1), 9);
        first.dial(5, 3);
        DUE.is("round to the first", first.covered(14), 14);
    }

    private static void photographs() {
        HandsAlike town = small();
        DUE.is("one", Due.photographs(town, 0, 0, 100, 1, 2), 2);
        DUE.is("one, not sure", Due.photographs(town, 0, 0, 0, 2, 1), -2);
        DUE.is("one, sure", Due.photographs(town, 0, 0, 0, 1, 3), 3);
        DUE.is("one that can't be", Due.photographs(town, 0, 0, 100, 0, 3), 0);
        DUE.is("one that can't be, sure", Due.photographs(town, 0, 0, 0, 0, 3), -4);
        DUE.is("no such MARK", Due.photographs(town, 0, 0, 0, 1, 4), -3);
        DUE.is("empty then", town.count(6), 0);
        // 1 2 is 2 or 5, 1 3 is 3: behind one TICK 2, 3
        DUE.is("two", Due.photographs(town, 1, 1, 100, 1, 2, 1, 3), 1);
        DUE.is("two, the first", Due.photographs(town, 1, 1, 0, 1, 2, 1, 3), 2);
        DUE.is("two, round", Due.photographs(town, 6, 6, 0, 1, 2, 1, 3), 5);
        DUE.is("the same TIMES are one row", Due.photographs(town, 0, 99, 100, 1, 2, 1, 2), 4);
        DUE.is("a whole round between", Due.photographs(town, 8, 8, 100, 1, 2, 1, 2), 2);
        // of three the middle one is sure though the ends are not: 2 or 5, 0, 2 or 5
        DUE.is("the middle one", Due.photographs(town, 0, 99, 1, 1, 2, 0, 0, 2, 1), 0);
        DUE.is("an end", Due.photographs(town, 0, 99, 2, 1, 2, 0, 0, 2, 1), -2);
        DUE.is("their rows", Due.photographs(town, 0, 99, 100, 1, 2, 0, 0, 2, 1), 4);
        // a later one makes an earlier one sure
        DUE.is("sure by the last", Due.photographs(town, 1, 3, 0, 1, 2, 1, 2, 3, 2), 2);
        DUE.is("none leads on", Due.photographs(town, 1, 1, 0, 0, 0, 0, 0), -4);
        town.dial(4, 24);
        DUE.is("many rows", Due.photographs(town, 0, 99, 100, 0, 1, 0, 1, 0, 1, 0, 1, 0, 1, 0, 1, 0, 1, 0, 1), 429981696);
        Due.feed(town, new int[40]);
        int[][] wrong = {{0, 0, 0, 100}, {9, 0, 0, 100}, {1, -1, 0, 100}, {1, 2, 1, 100}, {1, 0, 100, 100},
            {1, 100, 100, 100}, {1, 0, 0, 1}, {1, 0, 0, -1}, {1, 0, 0, 99}, {8, 0, 0, 8}, {1, 0, 0, 101},
            {LOW, 0, 0, 0}, {HIGH, 0, 0, 0}};
        for (int[] w : wrong) {
            DUE.is("photographs " + w[0], town.photographs(w[0], w[1], w[2], w[3]), -1);
        }
        DUE.is("the tape stays", town.count(6), 40);
        DUE.is("least and most", town.photographs(8, 99, 99, 7), -4);
        town.feed(0, 0, 0, 0, 0);
        town.heard(1, false, 0);
        DUE.is("not so many", town.photographs(1, 0, 0, 100), -1);
    }

    private static void anyOrder() {
        HandsAlike town = small();
        DUE.is("one order", Due.anyOrder(town, 1, 1, 0, 1, 2, 1, 3), 1);
        DUE.is("the first first", Due.anyOrder(town, 1, 1, 1, 1, 2, 1, 3), 1);
        DUE.is("the second first", Due.anyOrder(town, 1, 1, 1, 1, 3, 1, 2), 2);
        DUE.is("alike ones are unlike", Due.anyOrder(town, 3, 3, 0, 1, 2, 1, 2), 2);
        DUE.is("either first", Due.anyOrder(town, 3, 3, 1, 1, 2, 1, 2), 3);
        DUE.is("it can't be", Due.anyOrder(town, 0, 0, 0, 0, 3), 0);
        DUE.is("it can't be, first", Due.anyOrder(town, 0, 0, 1, 0, 3), 0);
        DUE.is("no such MARK", Due.anyOrder(town, 0, 0, 1, 0, 3, 9, 0), -3);
        DUE.is("empty then", town.count(6), 0);
        // 0, 3, 4, 7 in a round, each 1 to 3 behind: it can begin at any of them
        DUE.is("four", Due.anyOrder(town, 1, 3, 0, 0, 0, 1, 3, 2, 0, 3, 3), 4);
        DUE.is("four first", Due.anyOrder(town, 1, 3, 1, 0, 0, 1, 3, 2, 0, 3, 3), 15);
        DUE.is("all orders of six", Due.anyOrder(town, 0, 7, 0, 0, 0, 0, 1, 1, 3, 2, 0, 3, 2, 3, 3), 720);
        town.dial(4, 24);
        DUE.is("a billion at most", Due.anyOrder(town, 0, 99, 0, 0, 1, 0, 1, 0, 1, 0, 1, 0, 1, 0, 1), 1000000000);
        DUE.is("each first", Due.anyOrder(town, 0, 99, 1, 0, 1, 0, 1, 0, 1, 0, 1, 0, 1, 0, 1), 63);
        Due.feed(town, new int[20]);
        int[][] wrong = {{0, 0, 0, 0}, {7, 0, 0, 0}, {1, -1, 0, 0}, {1, 2, 1, 0}, {1, 0, 100, 0}, {1, 0, 0, -1}, {1, 0, 0, 2}};
        for (int[] w : wrong) {
            DUE.is("anyOrder " + w[0], town.anyOrder(w[0], w[1], w[2], w[3]), -1);
        }
        DUE.is("the tape stays", town.count(6), 20);
    }

    private static void strikes() {
        HandsAlike town = small();
        DUE.is("quiet", town.quiet(false), 4);
        DUE.is("quiet, halves", town.quiet(true), 2);
        DUE.is("strokes", town.strokes(0, 7, false), 3);
        DUE.is("strokes, halves", town.strokes(0, 7, true), 5);
        DUE.is("at one", town.strokes(4, 4, false), 1);
        DUE.is("at 0", town.strokes(0, 0, false), 2);
        DUE.is("none", town.strokes(5, 7, false), 0);
        DUE.is("earlier", town.strokes(4, 3, false), -1);
        DUE.is("no TIME", town.strokes(-1, 3, false), -1);
        DUE.is("no TIME either", town.strokes(0, 8, false), -1);
        DUE.is("till at once", town.strokesTill(0, 2, false), 0);
        DUE.is("till a round later", town.strokesTill(0, 4, false), 8);
        DUE.is("till, round", town.strokesTill(5, 1, false), 3);
        DUE.is("till, halves", town.strokesTill(5, 1, true), 1);
        DUE.is("till very late", new HandsAlike().strokesTill(1, 9999, true), 80099);
        DUE.is("till the end of the round", new HandsAlike().strokesTill(1, 78, false), 719);
        DUE.is("till 0", town.strokesTill(0, 0, false), -1);
        DUE.is("till 10000", town.strokesTill(0, 10000, false), -1);
        DUE.is("till no TIME", town.strokesTill(8, 1, false), -1);
        DUE.is("one strike", Due.heard(town, false, 1, 2), 0);
        DUE.is("several", Due.heard(town, true, 1, 1), -2);
        DUE.is("how many", Due.heard(town, true, 0, 1), 3);
        DUE.is("none such", Due.heard(town, true, 1, 3), -4);
        DUE.is("none such, how many", Due.heard(town, true, 0, 3), 0);
        DUE.is("a byte of 0", Due.heard(town, true, 0, 0), 0);
        DUE.is("all round, several times", Due.heard(town, false, 1, 1, 2, 1, 2, 1, 2, 1, 2, 1, 2, 1, 2), 0);
        DUE.is("odd ones", Due.heard(town, false, 1, 2, 1, 2), 0);
        DUE.is("empty then", town.count(6), 0);
        Due.feed(town, 1, 1, 1);
        DUE.is("heard 0", town.heard(0, true, 0), -1);
        DUE.is("heard 13", town.heard(13, true, 0), -1);
        DUE.is("heard what", town.heard(1, true, 2), -1);
        DUE.is("heard what -1", town.heard(1, true, -1), -1);
        DUE.is("heard: the tape stays", town.heard(3, true, 1), 6);
        DUE.is("heard: not so many", town.heard(1, true, 0), -1);
        DUE.is("listen", town.listen(false), 1);
        DUE.is("listen, halves", town.listen(true), 3);
        town.dial(5, 3);
        DUE.is("odd MARKS: half is whole", town.strokes(2, 2, true), 1);
        DUE.is("odd MARKS: quiet", town.quiet(true), 3);
        town.dial(60, 24);
        DUE.is("listen long", town.listen(true), 3);
    }

    private static void towersAndWheels() {
        HandsAlike town = small();
        DUE.is("both", town.towers(4, false, 0), 2);
        DUE.is("never both", town.towers(2, false, 0), 0);
        DUE.is("one alone", town.towers(2, false, 1), 2);
        DUE.is("added up", town.towers(4, false, 1), 3);
        DUE.is("at once", town.towers(0, false, 1), 4);
        DUE.is("halves", town.towers(2, true, 0), 4);
        DUE.is("halves, most", town.towers(2, true, 1), 3);
        DUE.is("later 7", town.towers(7, false, 0), 0);
        int[][] wrong = {{-1, 0}, {8, 0}, {0, -1}, {0, 2}};
        for (int[] w : wrong) {
            DUE.is("towers " + w[0] + " " + w[1], town.towers(w[0], false, w[1]), -1);
        }
        HandsAlike first = new HandsAlike();
        DUE.is("towers of 12", first.towers(60, false, 1), 23);
        DUE.is("later counts its way", first.towers(660, false, 1), 23);
        // 8 9 and 9 8 by 6 6
        DUE.is("wheels", town.wheels(6, 9, 0), 2);
        DUE.is("teeth", town.wheels(6, 9, 1), 29);
        DUE.is("no way", town.wheels(6, 8, 0), 0);
        DUE.is("no teeth", town.wheels(40, 40, 1), -2);
        // R 12: 6 and 6 drive 18 and 24
        DUE.is("teeth of 12", first.wheels(6, 40, 1), 54);
        DUE.is("ways of 12", first.wheels(6, 40, 0), 216);
        int[][] bad = {{5, 9, 0}, {9, 8, 0}, {6, 41, 0}, {6, 9, -1}, {6, 9, 2}, {LOW, HIGH, 0}};
        for (int[] w : bad) {
            DUE.is("wheels " + w[0] + " " + w[1], town.wheels(w[0], w[1], w[2]), -1);
        }
    }

    private static void clocksOfADay() {
        HandsAlike town = new HandsAlike();
        DUE.is("three", Due.clocks(town, "a@0;b@10+10;h@700-30"), 3);
        DUE.is("told", town.count(1), 131);
        DUE.is("shows b 99", town.shows(1, 99), 109);
        DUE.is("shows b 100", town.shows(1, 100), 111);
        DUE.is("rounded down below 0", town.shows(7, 1), 700);
        DUE.is("round", town.shows(7, 719), 677);
        int[][] wrong = {{2, 0}, {-1, 0}, {8, 0}, {0, -1}, {0, 720}, {LOW, 0}, {0, HIGH}};
        for (int[] w : wrong) {
            DUE.is("shows " + w[0] + " " + w[1], town.shows(w[0], w[1]), -1);
        }
        DUE.is("ahead", town.clockIs(7, 0), 700);
        DUE.is("gain", town.clockIs(7, 1), -30);
        DUE.is("set", town.clockIs(7, 2), 0);
        DUE.is("always right", town.clockIs(0, 3), 720);
        DUE.is("right first", town.clockIs(0, 4), 0);
        DUE.is("never right", town.clockIs(1, 3), 0);
        DUE.is("never right first", town.clockIs(1, 4), -2);
        DUE.is("what -1", town.clockIs(0, -1), -1000);
        DUE.is("what 5", town.clockIs(0, 5), -1000);
        DUE.is("not told", town.clockIs(2, 0), -1000);
        DUE.is("no clock", town.clockIs(8, 0), -1000);
        DUE.is("no clock below", town.clockIs(-1, 0), -1000);
        Due.clocks(town, "c@719+10;d@0-10");
        DUE.is("in place of all", town.count(1), 12);
        // 719 and t and 1 for 100 on: right from 100 to 199
        DUE.is("right for a while", town.clockIs(2, 3), 100);
        DUE.is("right from then on", town.clockIs(2, 4), 100);
        DUE.is("right only at 0", town.clockIs(3, 3), 1);
        DUE.is("a fault changes nothing", Due.clocks(town, "e@1;e@2"), -6004);
        DUE.is("told as before", town.count(1), 12);
        DUE.is("ahead as before", town.clockIs(2, 0), 719);
        town.setBy(2, 3);
        Due.clocks(town, "c@1");
        DUE.is("SET 0 again", town.clockIs(2, 2), 0);
        DUE.is("GAIN 0 if not told", town.clockIs(2, 1), 0);
    }

    private static void agreeing() {
        HandsAlike town = new HandsAlike();
        Due.clocks(town, "a@0;b@0+10;c@719+10");
        DUE.is("agree", town.agree(0, 1, false, 0), 100);
        DUE.is("agree first", town.agree(0, 1, false, 1), 0);
        DUE.is("agree later", town.agree(0, 2, false, 1), 100);
        DUE.is("never", town.agree(1, 2, false, 0), 0);
        DUE.is("never first", town.agree(1, 2, false, 1), -2);
        DUE.is("the most in a row", town.agreeing(2, 0), 100);
        DUE.is("none in a row", town.agreeing(1, 2), 0);
        int[][] wrong = {{0, 0, 0}, {0, 3, 0}, {3, 0, 0}, {-1, 0, 0}, {0, 8, 0}, {0, 1, -1}, {0, 1, 2}};
        for (int[] w : wrong) {
            DUE.is("agree " + w[0] + " " + w[1], town.agree(w[0], w[1], false, w[2]), -1);
            DUE.is("agree alike " + w[0] + " " + w[1], town.agree(w[0], w[1], true, w[2]), -1);
        }
        DUE.is("agreeing itself", town.agreeing(0, 0), -1);
        DUE.is("agreeing not told", town.agreeing(0, 3), -1);
        DUE.is("all", town.all(0), 0);
        DUE.is("all first", town.all(1), -2);
        DUE.is("all what", town.all(2), -1);
        DUE.is("all what -1", town.all(-1), -1);
        Due.clocks(town, "c@719+10;g@0");
        DUE.is("all of two", town.all(0), 100);
        DUE.is("all of two first", town.all(1), 100);
        Due.clocks(town, "d@3");
        DUE.is("one alone", town.all(0), 720);
        HandsAlike small = small();
        Due.clocks(small, "a@0;b@3");
        // a SHOWS 2, b 5 at 2; b SHOWS 2 at 7, a 7
        DUE.is("alike", small.agree(0, 1, true, 0), 1);
        DUE.is("alike first", small.agree(1, 0, true, 1), 2);
        DUE.is("not the same", small.agree(0, 1, false, 0), 0);
        Due.clocks(small, "a@1;b@1");
        DUE.is("the same look alike", small.agree(0, 1, true, 0), 8);
        DUE.is("not round", small.agreeing(0, 1), 8);
    }

    private static void atATick() {
        HandsAlike town = new HandsAlike();
        Due.clocks(town, "b@3;c@718;d@3;f@20");
        DUE.is("nearest", town.nearest(0, 0), 2);
        DUE.is("by how much", town.nearest(0, 1), 2);
        DUE.is("most", town.most(0, 0), 3);
        DUE.is("most, how many", town.most(0, 1), 2);
        DUE.is("most later", town.most(719, 0), 2);
        DUE.is("pairs", town.pairs(0, 0), 1);
        DUE.is("pairs alike", town.pairs(0, 1), 1);
        DUE.is("spread", town.spread(0), 22);
        int[] ticks = {-1, 720, LOW, HIGH};
        for (int tick : ticks) {
            DUE.is("nearest at " + tick, town.nearest(tick, 0), -1);
            DUE.is("most at " + tick, town.most(tick, 0), -1);
            DUE.is("pairs at " + tick, town.pairs(tick, 0), -1);
            DUE.is("spread at " + tick, town.spread(tick), -1);
        }
        int[] whats = {-1, 2};
        for (int what : whats) {
            DUE.is("nearest what " + what, town.nearest(0, what), -1);
            DUE.is("most what " + what, town.most(0, what), -1);
            DUE.is("pairs what " + what, town.pairs(0, what), -1);
        }
        Due.clocks(town, "e@2;g@718");
        DUE.is("of like ones the lowest CLOCK", town.nearest(0, 0), 4);
        DUE.is("of like ones the lowest TIME", town.most(0, 0), 2);
        DUE.is("at 2 it is 0", town.most(2, 0), 0);
        Due.clocks(town, "a@0;b@240;c@480");
        DUE.is("a third is free", town.spread(7), 480);
        Due.clocks(town, "a@5;b@60;c@5;d@60;e@60");
        DUE.is("pairs of three and two", town.pairs(0, 0), 4);
        DUE.is("all look alike", town.pairs(0, 1), 10);
        Due.clocks(town, "h@5");
        DUE.is("one alone", town.spread(0), 0);
        HandsAlike none = new HandsAlike();
        DUE.is("no CLOCKS: spread", none.spread(0), 0);
        DUE.is("no CLOCKS: nearest", none.nearest(0, 0), -2);
        DUE.is("no CLOCKS: by", none.nearest(0, 1), -2);
        DUE.is("no CLOCKS: most", none.most(0, 0), -2);
        DUE.is("no CLOCKS: how many", none.most(0, 1), 0);
        DUE.is("no CLOCKS: pairs", none.pairs(0, 1), 0);
        DUE.is("no CLOCKS: all", none.all(0), 720);
        DUE.is("no CLOCKS: all first", none.all(1), 0);
        DUE.is("no CLOCKS: wrong what first", none.nearest(0, 2), -1);
    }

    private static void setBy() {
        HandsAlike town = new HandsAlike();
        Due.clocks(town, "a@5+3;b@9-4");
        DUE.is("set", town.setBy(0, 1), true);
        DUE.is("as much ahead", town.clockIs(0, 0), 9);
        DUE.is("gain stays", town.clockIs(0, 1), 3);
        DUE.is("set one more", town.clockIs(0, 2), 1);
        DUE.is("the other stays", town.clockIs(1, 2), 0);
        DUE.is("itself", town.setBy(0, 0), false);
        DUE.is("not told", town.setBy(0, 2), false);
        DUE.is("not told either", town.setBy(2, 0), false);
        DUE.is("no clock", town.setBy(0, 8), false);
        DUE.is("no clock below", town.setBy(-1, 0), false);
        DUE.is("set of all", town.count(8), 1);
    }

    private static void appointments() {
        HandsAlike town = new HandsAlike();
        Due.clocks(town, "a@0;b@10");
        DUE.is("book", Due.book(town, "ab@20:9;ab@20:10;ca@100:3;cd@5:30;ba@5:99;ba@20:00"), 6);
        int[][] due = {
            {0, 1, 20, 9, 20, 10, 0, 9}, {0, 1, 20, 10, 20, 10, 1, 10}, {2, 0, 100, 3, -2, 100, 0, 3},
            {2, 3, 5, 30, -2, -2, 0, 0}, {1, 0, 5, 99, 715, 5, 0, 99}, {1, 0, 20, 0, 10, 20, 0, 0},
        };
        for (int i = 0; i < due.length; i++) {
            for (int what = 0; what < 8; what++) {
                DUE.is("appointment " + i + " " + what, town.appointment(i, what), due[i][what]);
            }
        }
        int[][] wrong = {{6, 0}, {-1, 0}, {0, 8}, {0, -1}, {LOW, 0}, {HIGH, 0}};
        for (int[] w : wrong) {
            DUE.is("appointment " + w[0] + " " + w[1], town.appointment(w[0], w[1]), -1);
        }
        DUE.is("met", town.meetings(0), 1);
        DUE.is("waited", town.meetings(1), 121);
        DUE.is("meetings what", town.meetings(2), -1);
        DUE.is("meetings what -1", town.meetings(-1), -1);
        DUE.is("a fault changes nothing", Due.book(town, "ab@1:1;aa@1:1"), -6008);
        DUE.is("as many as before", town.count(2), 6);
        DUE.is("as before", town.appointment(0, 3), 9);
        DUE.is("new CLOCKS", Due.clocks(town, "c@5"), 1);
        DUE.is("the BOOK stays", town.count(2), 6);
        DUE.is("there by the new one", town.appointment(3, 4), 0);
        Due.clocks(town, "a@0;b@10");
        DUE.is("good", town.goodTimes(0, 1, 10, 0), 710);
        DUE.is("good first", town.goodTimes(0, 1, 10, 1), 10);
        DUE.is("not good", town.goodTimes(0, 1, 9, 0), 0);
        DUE.is("not good first", town.goodTimes(0, 1, 9, 1), -2);
        DUE.is("99", town.goodTimes(0, 1, 99, 0), 710);
        int[][] bad = {{0, 0, 1, 0}, {0, 2, 1, 0}, {0, 1, -1, 0}, {0, 1, 100, 0}, {0, 1, 1, 2}, {0, 1, 1, -1}, {8, 1, 1, 0}};
        for (int[] w : bad) {
            DUE.is("good times " + w[0] + " " + w[1], town.goodTimes(w[0], w[1], w[2], w[3]), -1);
        }
        Due.book(town, "ab@10:12;ba@0:99");
        DUE.is("there at once", town.appointment(0, 5), 0);
        DUE.is("waits from 0 on", town.appointment(0, 7), 10);
        DUE.is("meets from 0 on", town.appointment(0, 6), 1);
        DUE.is("waits in vain from 0 on", town.appointment(1, 7), 99);
        HandsAlike large = new HandsAlike();
        large.dial(60, 24);
        Due.clocks(large, "a@1;b@1");
        DUE.is("all TIMES are good", large.goodTimes(0, 1, 0, 0), 1440);
        Due.clocks(town, "a@0+99;b@0-99");
        // a: 10 and 0.99 is 10, 11 and 1.089 is 12; but 666 and 65.934 is 731, round 11
        DUE.is("jumped over", Due.book(town, "ab@11:9;ab@111:9"), 2);
        DUE.is("a shows 11 when it has gone round", town.appointment(0, 4), 666);
        DUE.is("a never shows 111", town.appointment(1, 4), -2);
        DUE.is("b waits alone", town.appointment(1, 7), 9);
        // b: 12 and -1.188 down is 10, 13 and -1.287 is 11
        DUE.is("b shows 11", town.appointment(0, 5), 13);
        DUE.is("b waits", town.appointment(0, 7), 9);
    }

    private static void daysGoBy() {
        HandsAlike town = new HandsAlike();
        DUE.is("no clocks", town.days(7), 0);
        DUE.is("the day", town.count(0), 7);
        DUE.is("no draws", town.count(7), 1);
        DUE.is("days 0", town.days(0), -1);
        DUE.is("days 101", town.days(101), -1);
        DUE.is("days low", town.days(LOW), -1);
        Due.clocks(town, "a@0+10;b@0-10");
        town.days(1);
        DUE.is("7.2 down", town.clockIs(0, 0), 7);
        DUE.is("-7.2 down", town.clockIs(1, 0), 712);
        DUE.is("two draws", town.count(7), 61087);
        Due.law(town, "s100(c=0);g5(c=0);l6(c=0);g1(c=1);l20(c=1);x(c=1&k<1)");
        DUE.is("set right", town.days(1), 1);
        DUE.is("by the GAIN of before, stood", town.clockIs(0, 0), 634);
        DUE.is("more and less", town.clockIs(0, 1), 9);
        DUE.is("set to 0", town.clockIs(1, 0), 0);
        DUE.is("less", town.clockIs(1, 1), -29);
        DUE.is("set once", town.clockIs(1, 2), 1);
        DUE.is("not again", town.days(1), 0);
        Due.law(town, "g20(1=1)");
        town.days(100);
        DUE.is("99 at most", town.clockIs(0, 1), 99);
        Due.law(town, "l20(1=1);g1(1=1)");
        town.days(100);
        DUE.is("-99 at least", town.clockIs(0, 1), -99);
        Due.law(town, "g20(1=1);l20(1=1)");
        town.days(1);
        DUE.is("g and l at once", town.clockIs(0, 1), -99);
        Due.law(town, "s99999(1=1)");
        Due.clocks(town, "a@0");
        town.days(1);
        DUE.is("999 at most", town.clockIs(0, 0), 441);
        Due.law(town, "s0-5(1=1);g0-5(1=1);l0-5(1=1)");
        town.days(1);
        DUE.is("0 at least", town.clockIs(0, 0), 441);
        DUE.is("0 at least, GAIN", town.clockIs(0, 1), 0);
        Due.law(town, "g99999(1=1)");
        town.days(1);
        DUE.is("20 at most", town.clockIs(0, 1), 20);
    }

    /** What an E is, by how long clock b stands because of it. */
    private static int reckoned(HandsAlike town, String e) {
        Due.law(town, "s" + e + "(c=1)");
        int ahead = town.clockIs(1, 0);
        int gained = Math.floorDiv(720 * town.clockIs(1, 1), 1000);
        return Math.floorMod(ahead + gained - town.tried(1, 11), 720);
    }

    private static void lettersOfTheLaw() {
        HandsAlike town = new HandsAlike();
        Due.clocks(town, "a@700;b@700-30;d@700;f@20");
        town.setBy(1, 5);
        town.setBy(1, 3);
        DUE.is("c", reckoned(town, "c"), 1);
        DUE.is("a", reckoned(town, "a"), 700);
        DUE.is("v", reckoned(town, "v"), 69);
        DUE.is("k", reckoned(town, "k"), 2);
        DUE.is("n", reckoned(town, "n"), 2);
        DUE.is("o", reckoned(town, "o"), 20);
        DUE.is("t", reckoned(town, "t"), 0);
        // X 1, 39022, 61087: the second DRAW is 7
        DUE.is("w", reckoned(town, "w"), 7);
        town.seed(0);
        // X 0, 13849, 54662
        DUE.is("w by another seed", reckoned(town, "w"), 2);
        for (int i = 0; i < 3; i++) {
            town.days(50);
        }
        Due.clocks(town, "b@0");
        DUE.is("t modulo 100", reckoned(town, "t"), 50);
        Due.clocks(town, "a@5;b@5");
        Due.law(town, "s5(c=0);s100+n(c=1)");
        DUE.is("those of lower numbers have had their DAY", town.tried(1, 11), 625);
        Due.clocks(town, "a@5;b@0");
        DUE.is("also if they come to it", town.tried(1, 11), 619);
        Due.clocks(town, "b@0;c@0");
        Due.law(town, "s100+n(c=1);s5(c=2)");
        DUE.is("those of higher ones have not", town.tried(1, 11), 619);
    }

    private static void rulesOfTheLaw() {
        HandsAlike town = new HandsAlike();
        Due.clocks(town, "b@0");
        DUE.is("times before plus", reckoned(town, "2+3*4"), 14);
        DUE.is("from the left on", reckoned(town, "100-10-1"), 89);
        DUE.is("from the left on, terms", reckoned(town, "100/10*3%7"), 2);
        DUE.is("brackets", reckoned(town, "[2+3]*4"), 20);
        DUE.is("deep brackets", reckoned(town, "[[[[[[7]]]]]]"), 7);
        DUE.is("division towards 0", reckoned(town, "10+[0-7]/2"), 7);
        DUE.is("rest of below 0", reckoned(town, "10+[0-7]%4"), 7);
        DUE.is("32 bits", reckoned(town, "65536*65536+3"), 3);
        DUE.is("32 bits turn below 0", reckoned(town, "32768*65536"), 0);
        DUE.is("the lowest by -1", reckoned(town, "32768*65536/[0-1]/[0-65536]/64"), 512);
        DUE.is("the rest of the lowest by -1", reckoned(town, "32768*65536%[0-1]+5"), 5);
        DUE.is("00012", reckoned(town, "00012"), 12);
        String[] hold = {"1=1", "1<2", "2>1", "!1=2", "!!1=1", "(1=1)", "!(1=2)", "1=2|1=1", "1=1&2=2", "1=2&1=1|3=3",
            "3=3|1=2&1=1", "1=1|1/0=1", "!(1=1&2=3)", "!1=2&1=1", "(1=2|1=1)&2=2", "0-5<3", "1=2&1/0=1|1=1", "1+1=4-2"};
        for (String c : hold) {
            Due.law(town, "x(" + c + ")");
            DUE.is("holds: " + c, town.tried(1, 0), 1);
        }
        String[] fail = {"1=2", "2<2", "2>2", "!1=1", "!(1=1)", "1=1&1=2", "1=2|2=3", "(1=2|1=1)&2=3", "!1=1|1=2", "1/0=1",
            "1%0=1", "!1/0=1", "1/0=1|1=1", "1=1&1/0=1", "!(1=1&1/0=1)", "1=2|1/0=0|1=1", "0=0*[1/0]"};
        for (String c : fail) {
            Due.law(town, "x(" + c + ")");
            DUE.is("does not hold: " + c, town.tried(1, 0), 0);
        }
        Due.law(town, "s5(1=2);s6(1/0=1);s7(1=1);s8(1=1)");
        DUE.is("the first whose C holds", town.tried(1, 11), 713);
        Due.law(town, "x(1=2);s1(1=1);x(1=1)");
        DUE.is("any will do", town.tried(1, 0), 1);
        DUE.is("only once", town.tried(3, 0), 3);
        DUE.is("AHEAD is 0 in the end", town.tried(1, 11), 0);
    }

    private static void refusedAndWhatMatters() {
        HandsAlike town = new HandsAlike();
        Due.clocks(town, "b@0");
        Due.law(town, "s5/0(1=1);s7(1=1)");
        DUE.is("a refused E is 0", town.tried(1, 11), 0);
        Due.law(town, "s3+[5%c]-[5%[c-1]](1=1);s7(1=1)");
        DUE.is("a refused E is 0 in all", town.tried(1, 11), 0);
        Due.law(town, "g3(c/[c-1]=0);g4(2=2)");
        DUE.is("a refused C does not hold", town.tried(1, 21), 103);
    }

    private static void lastDay() {
        HandsAlike town = new HandsAlike();
        Due.clocks(town, "b@0;c@5");
        Due.law(town, "x(c=1)");
        int right = 0;
        for (int i = 0; i < 99; i++) {
            right += town.days(100);
        }
        DUE.is("set right", right, 9900);
        DUE.is("the last days", town.days(100), 99);
        DUE.is("the last day", town.count(0), 9999);
        DUE.is("SET", town.clockIs(1, 2), 9999);
        int x = town.count(7);
        DUE.is("none goes by", town.days(1), 0);
        DUE.is("none goes by, the day", town.count(0), 9999);
        DUE.is("none goes by, X", town.count(7), x);
        DUE.is("none is tried", town.tried(5, 0), 0);
        DUE.is("not together", town.together(1, 2, 100), -2);
        DUE.is("SET more", town.setBy(1, 2), true);
        DUE.is("SET 9999 at most", town.clockIs(1, 2), 9999);
        DUE.is("but as much ahead", town.clockIs(1, 0), 5);
        DUE.is("together now", town.together(1, 2, 1), 0);
        DUE.is("keep", town.keep(), 9999);
    }

    private static void triedAndTogether() {
        HandsAlike town = new HandsAlike();
        Due.clocks(town, "a@0;b@100;d@0+5");
        Due.law(town, "s10(c=1);g1(c=3);x(c=3&t=4)");
        Due.book(town, "ab@300:15;ab@300:99");
        DUE.is("set right", town.tried(5, 0), 1);
        DUE.is("not yet", town.tried(4, 0), 0);
        DUE.is("ahead", town.tried(5, 11), 50);
        DUE.is("gain", town.tried(5, 23), 109);
        DUE.is("met by then", town.tried(9, 1), 2);
        DUE.is("met earlier", town.tried(8, 1), 1);
        DUE.is("not told", town.tried(5, 12), -1);
        DUE.is("not told, gain", town.tried(5, 22), -1);
        int[] whats = {-1, 2, 9, 18, 19, 28, 30, LOW, HIGH, 100};
        for (int what : whats) {
            DUE.is("tried what " + what, town.tried(5, what), -1);
        }
        DUE.is("tried 0", town.tried(0, 0), -1);
        DUE.is("tried 101", town.tried(101, 0), -1);
        DUE.is("nothing is changed", town.count(0) + town.clockIs(1, 0) + town.count(7), 101);
        DUE.is("together", town.together(0, 1, 10), 10);
        DUE.is("not in these", town.together(1, 0, 9), -2);
        DUE.is("they are", town.together(0, 3, 1), 0);
        int[][] wrong = {{0, 0, 5}, {0, 2, 5}, {0, 1, 0}, {0, 1, 101}, {8, 1, 5}, {0, -1, 5}};
        for (int[] w : wrong) {
            DUE.is("together " + w[0] + " " + w[1] + " " + w[2], town.together(w[0], w[1], w[2]), -1);
        }
        DUE.is("nothing is changed again", town.count(0) + town.clockIs(1, 0) + town.count(7), 101);
        int tried = town.tried(7, 13);
        town.days(7);
        DUE.is("as it was tried", town.clockIs(3, 0), tried);
    }

    private static void keptAndUndone() {
        HandsAlike town = new HandsAlike();
        Due.clocks(town, "a@1+1;b@2");
        town.days(2);
        int x = town.count(7);
        DUE.is("keep", town.keep(), 2);
        town.setBy(0, 1);
        town.days(3);
        Due.clocks(town, "b@7-7;c@8");
        town.setBy(2, 1);
        DUE.is("undo", town.undo(), true);
        DUE.is("told", town.count(1), 7);
        DUE.is("a", town.clockIs(0, 0), 1);
        DUE.is("a gain", town.clockIs(0, 1), 1);
        DUE.is("a set", town.clockIs(0, 2), 0);
        DUE.is("b", town.clockIs(1, 0), 2);
        DUE.is("b gain", town.clockIs(1, 1), 0);
        DUE.is("c stays", town.clockIs(2, 0), 7);
        DUE.is("c stays, set", town.clockIs(2, 2), 1);
        DUE.is("the day", town.count(0), 2);
        DUE.is("X", town.count(7), x);
        town.days(1);
        DUE.is("undo again", town.undo(), true);
        DUE.is("the day again", town.count(0), 2);
        DUE.is("seed", town.seed(65535), true);
        DUE.is("seed X", town.count(7), 65535);
        DUE.is("seed 0", town.seed(0), true);
        DUE.is("seed X 0", town.count(7), 0);
        DUE.is("seed -1", town.seed(-1), false);
        DUE.is("seed 65536", town.seed(65536), false);
        DUE.is("seed stays", town.count(7), 0);
        Due.book(town, "ab@1:1");
        Due.law(town, "x(1=1)");
        town.undo();
        DUE.is("the BOOK is not undone", town.count(2), 1);
        DUE.is("THE LAW is not undone", town.count(5), 1);
        town.dial(60, 13);
        DUE.is("another R", town.undo(), false);
        town.dial(12, 60);
        town.dial(59, 12);
        DUE.is("other MARKS", town.undo(), false);
        DUE.is("no clocks", town.count(1), 0);
        town.dial(60, 12);
        DUE.is("the same dial again", town.undo(), true);
        DUE.is("told again", town.count(1), 3);
        HandsAlike empty = new HandsAlike();
        empty.keep();
        Due.clocks(empty, "h@9");
        empty.days(1);
        DUE.is("none told then", empty.undo(), true);
        DUE.is("stays", empty.count(1), 128);
        DUE.is("day 0", empty.count(0), 0);
    }

    private static void checks() {
        HandsAlike town = new HandsAlike();
        Due.clocks(town, "a@257;c@255;h@719");
        Due.feed(town, 1, 255, 255, 255, 255, 255, 255, 719 % 256);
        DUE.is("right", town.check(8), -1);
        DUE.is("empty then", town.count(6), 0);
        Due.feed(town, 1, 254, 254);
        DUE.is("the first not so", town.check(3), 1);
        Due.feed(town, 1, 255, 9);
        DUE.is("only so many", town.check(2), -1);
        Due.feed(town, 1, 255, 9);
        DUE.is("a told one", town.check(3), 2);
        DUE.is("none of none", town.check(0), -1);
        DUE.is("not so many", town.check(1), -2);
        Due.feed(town, 1, 255, 9);
        DUE.is("9", town.check(9), -2);
        DUE.is("-1", town.check(-1), -2);
        DUE.is("the tape stays", town.count(6), 20);
        DUE.is("0 empties", town.check(0), -1);
        DUE.is("emptied", town.count(6), 0);
    }

    private static void counts() {
        HandsAlike town = new HandsAlike();
        Due.clocks(town, "a@1;c@2;h@3");
        Due.book(town, "ab@1:1;ba@1:1");
        Due.law(town, "x(1=1);x(1=1);x(1=1);x(1=1)");
        town.days(2);
        town.feed(0, 0, 0, 0, 0);
        int[] due = {2, 133, 2, 60, 12, 4, 20, town.count(7), 6};
        for (int what = 0; what < due.length; what++) {
            DUE.is("count " + what, town.count(what), due[what]);
        }
        int[] wrong = {-1, 9, LOW, HIGH};
        for (int what : wrong) {
            DUE.is("count " + what, town.count(what), -1);
        }
        // six DRAWS of X = 25173 X + 13849
        int x = 1;
        for (int i = 0; i < 6; i++) {
            x = (25173 * x + 13849) % 65536;
        }
        DUE.is("X", town.count(7), x);
        town.check(0);
        Due.clocks(town, "a@1");
        DUE.is("SET of told ones", town.count(8), 0);
    }
}
