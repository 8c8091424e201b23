import java.lang.reflect.Method;
import java.lang.reflect.Modifier;
import java.util.Random;

/** Any arguments in any state: no call throws, and refused ones change nothing that can be asked. */
public final class NeverThrowsTest {
    private static final int[] ODD = {Integer.MIN_VALUE, Integer.MIN_VALUE + 1, -1000, -2, -1, 0, 1, 2, 3, 7, 8, 12, 30, 31,
        59, 60, 61, 99, 100, 101, 719, 720, 1439, 1440, 9999, 10000, 65535, 65536, Integer.MAX_VALUE - 1, Integer.MAX_VALUE};

    public static void main(String[] args) throws Exception {
        int calls = 0;
        for (int run = 0; run < 60; run++) {
            calls += run(new Random(31L * run + 7), run);
        }
        System.out.println("NeverThrowsTest: " + calls + " calls");
    }

    private static int run(Random random, int run) throws Exception {
        HandsAlike town = new HandsAlike();
        RandomTexts texts = new RandomTexts(random);
        Method[] methods = HandsAlike.class.getDeclaredMethods();
        int calls = 0;
        while (calls < 480) {
            Method m = methods[random.nextInt(methods.length)];
            if (!Modifier.isPublic(m.getModifiers())) {
                continue;
            }
            if (random.nextInt(12) == 0) {
                calls += tell(town, texts, random);
            }
            Object[] with = new Object[m.getParameterCount()];
            StringBuilder told = new StringBuilder();
            for (int i = 0; i < with.length; i++) {
                boolean truth = m.getParameterTypes()[i] == boolean.class;
                int number = random.nextInt(3) == 0 ? random.nextInt(12) : ODD[random.nextInt(ODD.length)];
                if (truth) {
                    with[i] = random.nextBoolean();
                } else {
                    with[i] = random.nextInt(20) == 0 ? random.nextInt() : number;
                }
                told.append(with[i]).append(' ');
            }
            int before = state(town);
            Object answer = m.invoke(town, with);
            boolean refused = answer.equals(false) || answer.equals(-1);
            if (refused && !m.getName().equals("check") && state(town) != before) {
                System.out.println("run " + run + ": " + m.getName() + " " + told + "was refused but changed something");
                System.exit(1);
            }
            calls++;
        }
        return calls;
    }

    private static int tell(HandsAlike town, RandomTexts texts, Random random) {
        int round = town.count(3) * town.count(4);
        int kind = random.nextInt(3);
        String text = kind == 0 ? texts.clocks(round) : kind == 1 ? texts.book(round) : texts.law();
        town.check(0);
        Due.feed(town, Due.bytes(text));
        if (kind == 0) {
            town.clocks(text.length());
        } else if (kind == 1) {
            town.book(text.length());
        } else {
            town.law(text.length());
        }
        return 15;
    }

    private static int state(HandsAlike town) {
        int state = 0;
        for (int what = 0; what < 9; what++) {
            state = 31 * state + town.count(what);
        }
        for (int clock = 0; clock < 8; clock++) {
            for (int what = 0; what < 3; what++) {
                state = 31 * state + town.clockIs(clock, what);
            }
        }
        return state;
    }
}
