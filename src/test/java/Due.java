/** Counts the answers that are not as due, and feeds texts; every test of the project uses it. */
final class Due {
    private int wrong;
    private int asked;

    void is(String call, long got, long want) {
        asked++;
        if (got != want) {
            wrong++;
            if (wrong <= 50) {
                System.out.println(call + " answered " + got + ", due is " + want);
            }
        }
    }

    void is(String call, boolean got, boolean want) {
        is(call, got ? 1 : 0, want ? 1 : 0);
    }

    void end(String name) {
        System.out.println(name + ": " + asked + " asked, " + wrong + " wrong");
        if (wrong != 0) {
            System.exit(1);
        }
    }

    /** Five ints of twenty bytes, from a place of a text on; behind its end there are zeros. */
    static int[] block(int[] bytes, int from) {
        int[] five = new int[5];
        for (int i = 0; i < 20; i++) {
            int b = from + i < bytes.length ? bytes[from + i] & 255 : 0;
            five[i / 4] = five[i / 4] << 8 | b;
        }
        return five;
    }

    static int[] bytes(String text) {
        int[] bytes = new int[text.length()];
        for (int i = 0; i < bytes.length; i++) {
            bytes[i] = text.charAt(i);
        }
        return bytes;
    }

    static void feed(HandsAlike town, int... bytes) {
        for (int from = 0; from < bytes.length; from += 20) {
            int[] f = block(bytes, from);
            town.feed(f[0], f[1], f[2], f[3], f[4]);
        }
    }

    static int law(HandsAlike town, String text) {
        feed(town, bytes(text));
        return town.law(text.length());
    }

    static int clocks(HandsAlike town, String text) {
        feed(town, bytes(text));
        return town.clocks(text.length());
    }

    static int book(HandsAlike town, String text) {
        feed(town, bytes(text));
        return town.book(text.length());
    }

    static int photographs(HandsAlike town, int least, int most, int what, int... marks) {
        feed(town, marks);
        return town.photographs(marks.length / 2, least, most, what);
    }

    static int anyOrder(HandsAlike town, int least, int most, int what, int... marks) {
        feed(town, marks);
        return town.anyOrder(marks.length / 2, least, most, what);
    }

    static int heard(HandsAlike town, boolean halves, int what, int... strokes) {
        feed(town, strokes);
        return town.heard(strokes.length, halves, what);
    }
}
