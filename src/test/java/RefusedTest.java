import java.util.ArrayList;
import java.util.List;

/**
 * "A call that is refused changes nothing but the tape, where it is told": of two towns that were told
 * the same, one is asked all that is refused in between; then both must answer alike, whatever is asked.
 */
public final class RefusedTest {
    private static final int LOW = Integer.MIN_VALUE;
    private static final int HIGH = Integer.MAX_VALUE;
    private static final Due DUE = new Due();

    private static final String CLOCKS = "a@5+9;b@100-99;d@719;h@5+9";
    private static final String BOOK = "ab@120:20;hd@7:99;ac@6:5";
    private static final String LAW = "s3*w(c<2);g1(n>0);l2(a/o=1);x(c=3&t%2=1)";

    public static void main(String[] args) {
        for (int state = 0; state < 5; state++) {
            HandsAlike asked = told(state);
            HandsAlike left = told(state);
            refuse(asked, state);
            compare("state " + state, asked, left);
        }
        faults();
        questions();
        DUE.end("RefusedTest");
    }

    /** 0 new; 1 all told; 2 kept, and changed since; 3 a text on the tape; 4 the tape is full. */
    private static HandsAlike told(int state) {
        HandsAlike town = new HandsAlike();
        if (state == 0) {
            return town;
        }
        Due.clocks(town, CLOCKS);
        Due.book(town, BOOK);
        Due.law(town, LAW);
        town.seed(4711);
        town.days(3);
        if (state >= 2) {
            town.keep();
            town.days(2);
            town.setBy(0, 1);
        }
        if (state >= 3) {
            Due.feed(town, Due.bytes("c@77-7;e@88;aaaaaaaaaaaaaaaa"));
        }
        for (int i = 0; state == 4 && i < 11; i++) {
            town.feed(i, i, i, i, i);
        }
        return town;
    }

    /** Every call with what its promise refuses; each must be refused. */
    private static void refuse(HandsAlike town, int state) {
        int[] far = {LOW, -2, 1440, HIGH};
        for (int t : far) {
            no(town.dial(t, 12) ? 1 : -1, "dial");
            no(town.dial(60, t) ? 1 : -1, "dial");
            no(town.law(t), "law");
            no(town.clocks(t), "clocks");
            no(town.book(t), "book");
            no(town.photographs(t, 0, 0, 100), "photographs");
            no(town.photographs(1, t, 99, 100), "photographs");
            no(town.photographs(1, 0, t, 100), "photographs");
            no(town.photographs(1, 0, 0, t), "photographs");
            no(town.anyOrder(t, 0, 0, 0), "anyOrder");
            no(town.anyOrder(1, 0, 0, t), "anyOrder");
            no(town.heard(t, true, 0), "heard");
            no(town.heard(1, true, t), "heard");
            no(town.setBy(t, 0) ? 1 : -1, "setBy");
            no(town.setBy(0, t) ? 1 : -1, "setBy");
            no(town.days(t), "days");
            no(town.tried(t, 0), "tried");
            no(town.tried(1, t), "tried");
            no(town.together(0, 1, t), "together");
            no(town.seed(t < 0 ? t : t + 65536 < 0 ? t : t + 65536) ? 1 : -1, "seed");
            DUE.is("check is refused", town.check(t), -2);
        }
        no(town.dial(3, 2) ? 1 : -1, "dial 3");
        no(town.dial(61, 2) ? 1 : -1, "dial 61");
        no(town.dial(4, 1) ? 1 : -1, "dial R 1");
        no(town.dial(4, 25) ? 1 : -1, "dial R 25");
        no(town.law(0), "law 0");
        no(town.law(241), "law 241");
        no(town.clocks(0), "clocks 0");
        no(town.clocks(121), "clocks 121");
        no(town.book(0), "book 0");
        no(town.book(161), "book 161");
        no(town.days(0), "days 0");
        no(town.days(101), "days 101");
        no(town.setBy(0, 0) ? 1 : -1, "setBy itself");
        no(town.setBy(0, 2) ? 1 : -1, "setBy one not told");
        no(town.setBy(2, 0) ? 1 : -1, "setBy of one not told");
        no(town.seed(-1) ? 1 : -1, "seed -1");
        no(town.seed(65536) ? 1 : -1, "seed 65536");
        DUE.is("check 9 is refused", town.check(9), -2);
        if (state < 2) {
            no(town.undo() ? 1 : -1, "undo");
        }
        if (state < 3) {
            no(town.law(1), "law of an empty tape");
            no(town.photographs(1, 0, 0, 100), "photographs of an empty tape");
            no(town.anyOrder(1, 0, 0, 0), "anyOrder of an empty tape");
            no(town.heard(1, false, 0), "heard of an empty tape");
            DUE.is("check of an empty tape", town.check(1), -2);
        }
        if (state == 3) {
            no(town.law(41), "law of more than there are");
            no(town.clocks(41), "clocks of more than there are");
            no(town.book(41), "book of more than there are");
        }
        if (state == 4) {
            no(town.feed(-1, -1, -1, -1, -1), "feed of a full tape");
        }
    }

    private static void no(int answer, String call) {
        DUE.is(call + " is refused", answer, -1);
    }

    private static void compare(String when, HandsAlike one, HandsAlike other) {
        List<Integer> all = answers(one);
        List<Integer> due = answers(other);
        for (int i = 0; i < due.size(); i++) {
            DUE.is(when + ", question " + i, all.get(i), due.get(i));
        }
    }

    /** What can be asked of a town, the tape at last and what was KEPT behind it. */
    private static List<Integer> answers(HandsAlike town) {
        List<Integer> all = new ArrayList<>();
        addState(town, all);
        all.add(town.clocks(11));
        addState(town, all);
        all.add(town.undo() ? 1 : 0);
        addState(town, all);
        all.add(town.days(7));
        addState(town, all);
        return all;
    }

    private static void addState(HandsAlike town, List<Integer> all) {
        for (int what = 0; what < 9; what++) {
            all.add(town.count(what));
        }
        for (int clock = 0; clock < 8; clock++) {
            for (int what = 0; what < 3; what++) {
                all.add(town.clockIs(clock, what));
            }
            all.add(town.tried(1, 10 + clock));
            all.add(town.tried(2, 20 + clock));
        }
        for (int i = 0; i < 4; i++) {
            for (int what = 0; what < 8; what++) {
                all.add(town.appointment(i, what));
            }
        }
        all.add(town.untold(0));
        all.add(town.tried(5, 0));
        all.add(town.meetings(1));
    }

    /** A FAULT empties the tape, and all else stays. */
    private static void faults() {
        for (int state = 0; state < 3; state++) {
            HandsAlike asked = told(state);
            DUE.is("a FAULT of a LAW", Due.law(asked, "s9(1=1);g9(2=2);x"), -1017);
            DUE.is("empty then", asked.count(6), 0);
            DUE.is("a FAULT of CLOCKS", Due.clocks(asked, "a@700;c@1+99;h@720"), -3015);
            DUE.is("empty then", asked.count(6), 0);
            DUE.is("a FAULT of a BOOK", Due.book(asked, "cd@1:1;ef@2:2;gh@3:3;aa"), -6022);
            DUE.is("empty then", asked.count(6), 0);
            DUE.is("a MARK there is not", Due.photographs(asked, 0, 0, 100, 60, 0), -3);
            DUE.is("empty then", asked.count(6), 0);
            compare("faults in state " + state, asked, told(state));
        }
    }

    /** What is only asked changes nothing, either. */
    private static void questions() {
        for (int state = 0; state < 5; state++) {
            HandsAlike asked = told(state);
            asked.reads(5, 3);
            asked.exchanged(5);
            asked.mirrors(0);
            asked.bestDial(7, 0);
            asked.bestDial(7, 1);
            asked.untold(2);
            asked.till(5);
            asked.glance(5);
            asked.covered(-1);
            asked.apart(3);
            asked.quiet(true);
            asked.strokesTill(3, 77, true);
            asked.strokes(3, 77, true);
            asked.listen(true);
            asked.towers(60, true, 1);
            asked.wheels(6, 12, 0);
            asked.agree(0, 1, true, 0);
            asked.agreeing(0, 1);
            asked.all(0);
            asked.nearest(9, 0);
            asked.most(9, 0);
            asked.pairs(9, 1);
            asked.spread(9);
            asked.goodTimes(0, 1, 9, 0);
            asked.tried(100, 1);
            asked.together(0, 1, 100);
            compare("questions in state " + state, asked, told(state));
        }
    }
}
