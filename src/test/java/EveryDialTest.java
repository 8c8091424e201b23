/**
 * Every DIAL there can be, asked beside PlainTown: what a DIAL has as a whole, and its TIMES. Dear questions are asked
 * at some TIMES only; with any argument at all of them ("java -cp .. EveryDialTest all", some minutes).
 */
public final class EveryDialTest {
    private static final Due DUE = new Due();

    public static void main(String[] args) {
        boolean all = args.length > 0;
        for (int marks = 4; marks <= 60; marks++) {
            for (int turns = 2; turns <= 24; turns++) {
                ask(marks, turns, all);
            }
            for (int what = 0; all && what < 2; what++) {
                is("bestDial", new HandsAlike().bestDial(marks, what), new PlainTown().bestDial(marks, what), marks, what);
            }
        }
        DUE.end("EveryDialTest");
    }

    /** Words are joined only for what is wrong: there are a great many answers. */
    private static void is(String call, int got, int want, int... arguments) {
        DUE.is(got == want ? call : call + java.util.Arrays.toString(arguments), got, want);
    }

    private static void ask(int marks, int turns, boolean all) {
        HandsAlike town = new HandsAlike();
        PlainTown plain = new PlainTown();
        DUE.is("dial", town.dial(marks, turns), plain.dial(marks, turns));
        askWhole(town, plain, marks, turns);
        int round = marks * turns;
        // another step for each DIAL, and one that shares no rhythm with the hands
        int step = all ? 1 : 1 + round / 5;
        for (int time = 0; time <= round; time++) {
            for (int what = 0; what < 6; what++) {
                boolean dear = what == 3 || what == 5;
                if (all || !dear || time % 29 == turns) {
                    is("reads", town.reads(time, what), plain.reads(time, what), marks, turns, time, what);
                }
            }
            is("till", town.till(time), plain.till(time), marks, turns, time);
        }
        for (int time = marks % step; time <= round; time += step) {
            is("glance", town.glance(time), plain.glance(time), marks, turns, time);
            is("exchanged", town.exchanged(time), plain.exchanged(time), marks, turns, time);
            is("covered", town.covered(time), plain.covered(time), marks, turns, time);
            askTowers(town, plain, marks, turns, time);
        }
    }

    private static void askWhole(HandsAlike town, PlainTown plain, int marks, int turns) {
        for (int what = 0; what < 2; what++) {
            is("mirrors", town.mirrors(what), plain.mirrors(what), marks, turns, what);
            is("quiet", town.quiet(what == 1), plain.quiet(what == 1), marks, turns, what);
            is("listen", town.listen(what == 1), plain.listen(what == 1), marks, turns, what);
        }
        for (int what = 0; what < 4; what++) {
            is("untold", town.untold(what), plain.untold(what), marks, turns, what);
        }
        is("covered", town.covered(-1), plain.covered(-1), marks, turns);
        for (int apart = 0; apart <= 30; apart += 1 + marks * turns / 60) {
            is("apart", town.apart(apart), plain.apart(apart), marks, turns, apart);
        }
    }

    private static void askTowers(HandsAlike town, PlainTown plain, int marks, int turns, int later) {
        for (int what = 0; what < 4; what++) {
            boolean halves = what > 1;
            int got = town.towers(later, halves, what % 2);
            is("towers", got, plain.towers(later, halves, what % 2), marks, turns, later, what);
            int many = 1 + later * (what + 1);
            is("strokesTill", town.strokesTill(later, many, halves), plain.strokesTill(later, many, halves),
                marks, turns, later, many);
            is("strokes", town.strokes(later / 2, later, halves), plain.strokes(later / 2, later, halves),
                marks, turns, later);
        }
    }
}
