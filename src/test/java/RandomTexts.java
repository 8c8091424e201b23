import java.util.Random;

/** Texts of clocks, books and laws: mostly right ones, some with a sign spoilt. */
final class RandomTexts {
    private final Random random;

    RandomTexts(Random random) {
        this.random = random;
    }

    private char letter(String of) {
        return of.charAt(random.nextInt(of.length()));
    }

    String spoilt(String text, int most) {
        String s = text;
        while (s.length() > 0 && random.nextInt(4) == 0) {
            int at = random.nextInt(s.length());
            String sign = String.valueOf(letter("abcdgh@;:+-0123456789()[]!&|<>=*/%xslvknotwz \u00ff"));
            int how = random.nextInt(4);
            s = s.substring(0, at) + (how == 0 ? "" : sign) + s.substring(how == 1 ? at : at + 1);
            s = how == 3 ? s.substring(0, at) : s;
        }
        return s.length() > most ? s.substring(0, most) : s;
    }

    private String digits(int most) {
        int many = 1 + random.nextInt(most);
        StringBuilder s = new StringBuilder();
        for (int i = 0; i < many; i++) {
            s.append(letter("0123456789"));
        }
        return s.toString();
    }

    private String time(int round) {
        int t = random.nextInt(random.nextInt(12) == 0 ? 2 * round : round);
        String s = String.valueOf(t);
        return s.length() < 4 && random.nextInt(8) == 0 ? "0" + s : s;
    }

    String clocks(int round) {
        int many = 1 + random.nextInt(random.nextInt(4) == 0 ? 9 : 5);
        int first = random.nextInt(8);
        StringBuilder s = new StringBuilder();
        for (int i = 0; i < many; i++) {
            s.append(i == 0 ? "" : ";").append((char) ('a' + (first + 3 * i) % 8)).append('@').append(time(round));
            int gain = random.nextInt(4);
            if (gain < 2) {
                s.append(gain == 0 ? '+' : '-').append(digits(2));
            }
        }
        return s.toString();
    }

    String book(int round) {
        int many = 1 + random.nextInt(random.nextInt(6) == 0 ? 17 : 8);
        StringBuilder s = new StringBuilder();
        for (int i = 0; i < many; i++) {
            int one = random.nextInt(8);
            int other = (one + 1 + random.nextInt(random.nextInt(12) == 0 ? 8 : 7)) % 8;
            s.append(i == 0 ? "" : ";").append((char) ('a' + one)).append((char) ('a' + other));
            s.append('@').append(time(round)).append(':').append(digits(2));
        }
        return s.toString();
    }

    String law() {
        int many = 1 + random.nextInt(random.nextInt(6) == 0 ? 18 : 5);
        int deep = many > 8 ? 0 : 2 + random.nextInt(5);
        StringBuilder s = new StringBuilder();
        for (int i = 0; i < many; i++) {
            char kind = letter("ggllssx");
            s.append(i == 0 ? "" : ";").append(kind);
            if (kind != 'x') {
                expression(s, deep);
            }
            s.append('(');
            condition(s, deep);
            s.append(')');
        }
        return s.length() > 240 ? law() : s.toString();
    }

    private void condition(StringBuilder s, int deep) {
        int many = 1 + (deep > 0 ? random.nextInt(3) : 0);
        for (int i = 0; i < many; i++) {
            s.append(i == 0 ? "" : random.nextBoolean() ? "&" : "|");
            test(s, deep - 1);
        }
    }

    private void test(StringBuilder s, int deep) {
        int kind = deep > 0 ? random.nextInt(6) : 5;
        if (kind == 0) {
            s.append('!');
            test(s, deep - 1);
        } else if (kind == 1) {
            s.append('(');
            condition(s, deep - 1);
            s.append(')');
        } else {
            expression(s, deep - 1);
            s.append(letter("<>="));
            expression(s, deep - 1);
        }
    }

    private void expression(StringBuilder s, int deep) {
        int many = 1 + (deep > 0 ? random.nextInt(3) : 0);
        for (int i = 0; i < many; i++) {
            if (i > 0) {
                s.append(letter("+-*/%"));
            }
            int kind = random.nextInt(6);
            if (kind == 0 && deep > 0) {
                s.append('[');
                expression(s, deep - 1);
                s.append(']');
            } else if (kind < 3) {
                s.append(random.nextInt(5) == 0 ? digits(5) : digits(1));
            } else {
                s.append(letter("cavknotw"));
            }
        }
    }
}
