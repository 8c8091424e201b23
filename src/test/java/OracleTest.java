import java.lang.reflect.Method;
import java.util.ArrayList;
import java.util.List;
import java.util.Random;

/** Random runs of at most 512 calls on the program and on PlainTown, which must answer alike. */
public final class OracleTest {
    private static final String[] CALLS = {
        "reads", "exchanged", "mirrors", "untold", "till", "glance", "covered", "apart", "quiet", "strokesTill", "strokes",
        "listen", "towers", "shows", "clockIs", "agree", "agreeing", "all", "nearest", "most", "pairs", "spread",
        "goodTimes", "setBy", "appointment", "meetings", "days", "tried", "together", "seed", "keep", "undo", "count",
    };

    private final Random random;
    private final RandomTexts texts;
    private final int run;
    private final HandsAlike town = new HandsAlike();
    private final PlainTown plain = new PlainTown();
    private final List<String> before = new ArrayList<>();
    private boolean wrong;

    private OracleTest(int run) {
        this.run = run;
        random = new Random(977L * run + 5);
        texts = new RandomTexts(random);
    }

    public static void main(String[] args) throws Exception {
        int runs = args.length > 0 ? Integer.parseInt(args[0]) : 150;
        int from = args.length > 1 ? Integer.parseInt(args[1]) : 0;
        int bad = 0;
        for (int run = from; run < from + runs && bad < 5; run++) {
            OracleTest test = new OracleTest(run);
            test.go();
            bad += test.wrong ? 1 : 0;
        }
        System.out.println("OracleTest: " + runs + " runs, " + bad + " wrong");
        if (bad > 0) {
            System.exit(1);
        }
    }

    private void go() throws Exception {
        for (int i = 0; i < 170 && !wrong; i++) {
            step();
        }
    }

    private long call(String name, Object... args) throws Exception {
        Object[] answers = new Object[2];
        Object[] objects = {town, plain};
        for (int k = 0; k < 2; k++) {
            for (Method m : objects[k].getClass().getDeclaredMethods()) {
                if (m.getName().equals(name) && m.getParameterCount() == args.length) {
                    m.setAccessible(true);
                    answers[k] = m.invoke(objects[k], args);
                }
            }
        }
        String told = name + java.util.Arrays.toString(args);
        before.add(told);
        if (!wrong && !answers[0].equals(answers[1])) {
            wrong = true;
            System.out.println("run " + run + ": " + String.join(" ", before));
            System.out.println(told + " answered " + answers[0] + ", due is " + answers[1]);
        }
        return answers[0] instanceof Boolean b ? (b ? 1 : 0) : (Integer) answers[0];
    }

    private void feed(int[] bytes) throws Exception {
        if (random.nextInt(20) > 0) {
            call("check", 0);
        }
        for (int from = 0; from < bytes.length; from += 20) {
            int[] f = Due.block(bytes, from);
            call("feed", f[0], f[1], f[2], f[3], f[4]);
        }
    }

    private int round() {
        return plain.rd();
    }

    private void step() throws Exception {
        int what = random.nextInt(100);
        if (before.isEmpty() || what < 4) {
            dial();
        } else if (what < 9) {
            String s = texts.spoilt(texts.clocks(round()), 130);
            feed(Due.bytes(s));
            call("clocks", s.length());
        } else if (what < 13) {
            String s = texts.spoilt(texts.book(round()), 170);
            feed(Due.bytes(s));
            call("book", s.length());
        } else if (what < 19) {
            String s = texts.spoilt(texts.law(), 245);
            feed(Due.bytes(s));
            call("law", s.length());
        } else if (what < 25) {
            photographs();
        } else if (what < 28) {
            heard();
        } else if (what < 30) {
            checkAll();
        } else if (what < 31) {
            call(random.nextBoolean() ? "clocks" : random.nextBoolean() ? "book" : "law", random.nextInt(300) - 20);
        } else if (what < 32) {
            rare();
        } else {
            String name = CALLS[random.nextInt(CALLS.length)];
            call(name, argumentsOf(name));
        }
    }

    private void dial() throws Exception {
        boolean large = random.nextInt(6) == 0;
        int marks = 4 + random.nextInt(large ? 57 : 9);
        int turns = 2 + random.nextInt(large || random.nextInt(3) == 0 ? 23 : 7);
        if (random.nextInt(12) == 0) {
            marks = random.nextInt(80) - 5;
            turns = random.nextInt(30) - 2;
        }
        call("dial", marks, turns);
    }

    private void photographs() throws Exception {
        boolean anyOrder = random.nextInt(3) == 0;
        int n = 1 + random.nextInt(anyOrder ? 4 : 8);
        n = anyOrder && random.nextInt(20) == 0 ? 5 + random.nextInt(3) : n;
        int least = random.nextInt(random.nextInt(3) == 0 ? 100 : 12);
        int most = Math.min(99, least + random.nextInt(random.nextInt(2) == 0 ? 100 : 5));
        int[] marks = new int[2 * n];
        int t = random.nextInt(round());
        for (int i = 0; i < n; i++) {
            boolean swap = random.nextBoolean();
            marks[2 * i] = swap ? t / plain.r : t % plain.d;
            marks[2 * i + 1] = swap ? t % plain.d : t / plain.r;
            t = (t + least + random.nextInt(most - least + 1)) % round();
            if (random.nextInt(40) == 0) {
                marks[2 * i] = random.nextInt(plain.d + 2);
            }
        }
        feed(marks);
        if (random.nextInt(15) == 0) {
            most = random.nextInt(110) - 5;
        }
        if (anyOrder) {
            call("anyOrder", n, least, most, random.nextInt(20) == 0 ? 2 : random.nextInt(2));
        } else {
            call("photographs", n, least, most, random.nextBoolean() ? 100 : random.nextInt(n + 1) - random.nextInt(2));
        }
    }

    private void heard() throws Exception {
        boolean halves = random.nextBoolean();
        int n = 1 + random.nextInt(random.nextBoolean() ? 3 : 12);
        int[] strokes = new int[n];
        List<Integer> window = plain.window(random.nextInt(plain.strikes(halves).size()), n, halves);
        for (int i = 0; i < n; i++) {
            strokes[i] = random.nextInt(30) == 0 ? random.nextInt(30) : window.get(i);
        }
        feed(strokes);
        call("heard", random.nextInt(20) == 0 ? random.nextInt(16) : n, halves, random.nextInt(20) == 0 ? 2 : random.nextInt(2));
    }

    private void checkAll() throws Exception {
        int[] bytes = new int[8];
        for (int c = 0; c < 8; c++) {
            bytes[c] = plain.has(c) ? plain.now.clocks.get(c)[0] : 255;
            bytes[c] += random.nextInt(20) == 0 ? 1 : 0;
        }
        feed(bytes);
        call("check", random.nextInt(12) - 1);
    }

    private void rare() throws Exception {
        if (random.nextBoolean()) {
            call("wheels", 5 + random.nextInt(15), 10 + random.nextInt(18), random.nextInt(2));
        } else {
            call("bestDial", random.nextInt(4) == 0 ? random.nextInt(64) : 4 + random.nextInt(10), random.nextInt(2));
        }
    }

    /** A fit number below a bound, sometimes one that is not fit. */
    private int below(int bound) {
        if (random.nextInt(25) == 0) {
            int[] odd = {-1, -2, bound, bound + 1, Integer.MIN_VALUE, Integer.MAX_VALUE};
            return odd[random.nextInt(odd.length)];
        }
        return random.nextInt(bound);
    }

    private int clock() {
        if (random.nextInt(4) > 0 && !plain.now.clocks.isEmpty()) {
            List<Integer> told = new ArrayList<>(plain.now.clocks.keySet());
            return told.get(random.nextInt(told.size()));
        }
        return below(8);
    }

    private Object[] argumentsOf(String name) {
        boolean halves = random.nextBoolean();
        switch (name) {
            case "reads":
                return new Object[] {below(round()), below(6)};
            case "exchanged": case "till": case "glance": case "spread":
                return new Object[] {below(round())};
            case "covered":
                return new Object[] {below(round() + 1) - 1};
            case "mirrors": case "all": case "meetings":
                return new Object[] {below(2)};
            case "untold":
                return new Object[] {below(4)};
            case "apart":
                return new Object[] {random.nextBoolean() ? below(31) : below(plain.d / 2 + 1)};
            case "quiet": case "listen":
                return new Object[] {halves};
            case "strokesTill":
                return new Object[] {below(round()), random.nextBoolean() ? below(10000) : below(100), halves};
            case "strokes":
                return new Object[] {below(round() / 2), below(round()), halves};
            case "towers":
                return new Object[] {random.nextBoolean() ? below(round()) : plain.d * below(plain.r), halves, below(2)};
            case "shows":
                return new Object[] {clock(), below(round())};
            case "clockIs":
                return new Object[] {clock(), below(5)};
            case "agree":
                return new Object[] {clock(), clock(), halves, below(2)};
            case "agreeing": case "setBy":
                return new Object[] {clock(), clock()};
            case "nearest": case "most": case "pairs":
                return new Object[] {below(round()), below(2)};
            case "goodTimes":
                return new Object[] {clock(), clock(), random.nextBoolean() ? below(100) : below(12), below(2)};
            case "appointment":
                return new Object[] {below(Math.max(1, plain.book.size())), below(8)};
            case "days":
                return new Object[] {random.nextInt(5) > 0 ? 1 + random.nextInt(3) : below(101)};
            case "tried":
                int[] whats = {0, 1, 10 + clock(), 20 + clock(), below(40)};
                return new Object[] {random.nextInt(3) > 0 ? 1 + random.nextInt(5) : below(101), whats[random.nextInt(5)]};
            case "together":
                return new Object[] {clock(), clock(), below(101)};
            case "seed":
                return new Object[] {below(65536)};
            case "count":
                return new Object[] {below(9)};
            default:
                return new Object[0];
        }
    }
}
