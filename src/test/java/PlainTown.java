import java.util.ArrayList;
import java.util.HashMap;
import java.util.HashSet;
import java.util.List;
import java.util.Map;
import java.util.Set;
import java.util.TreeSet;

/**
 * The document once more, by other ways than the program's and with no thought of speed: lists of all
 * TIMES, a law that is read anew whenever it is asked. OracleTest lets both answer the same calls.
 */
final class PlainTown {
    int d = 60;
    int r = 12;
    List<Integer> tape = new ArrayList<>();
    String law = "";
    int rules;
    List<int[]> book = new ArrayList<>();
    State now = new State();
    State kept;
    int keptD;
    int keptR;

    /** clock -> AHEAD, GAIN, SET */
    static final class State {
        Map<Integer, int[]> clocks = new HashMap<>();
        int day;
        int x = 1;

        State copy() {
            State s = new State();
            for (Map.Entry<Integer, int[]> e : clocks.entrySet()) {
                s.clocks.put(e.getKey(), e.getValue().clone());
            }
            s.day = day;
            s.x = x;
            return s;
        }
    }

    int rd() {
        return r * d;
    }

    boolean time(int t) {
        return 0 <= t && t < rd();
    }

    static int shorter(int a, int b, int round) {
        int up = 0;
        while ((a + up) % round != b) {
            up++;
        }
        return Math.min(up, round - up);
    }

    Set<Integer> hands(int t) {
        return t / r == t % d ? Set.of(t / r) : Set.of(t / r, t % d);
    }

    private Map<Set<Integer>, List<Integer>> table;
    private int tableD;
    private int tableR;

    /** All TIMES by where their hands are. */
    Map<Set<Integer>, List<Integer>> table() {
        if (table == null || tableD != d || tableR != r) {
            table = new HashMap<>();
            for (int t = 0; t < rd(); t++) {
                table.computeIfAbsent(hands(t), k -> new ArrayList<>()).add(t);
            }
            tableD = d;
            tableR = r;
        }
        return table;
    }

    List<Integer> like(int t) {
        return table().get(hands(t));
    }

    boolean told(int t) {
        return like(t).size() == 1;
    }

    boolean dial(int marks, int turns) {
        if (marks < 4 || marks > 60 || turns < 2 || turns > 24) {
            return false;
        }
        d = marks;
        r = turns;
        now.clocks.clear();
        book.clear();
        return true;
    }

    int feed(int a, int b, int c, int e, int f) {
        if (tape.size() > 240) {
            return -1;
        }
        for (int four : new int[] {a, b, c, e, f}) {
            tape.add(four >>> 24);
            tape.add(four >>> 16 & 255);
            tape.add(four >>> 8 & 255);
            tape.add(four & 255);
        }
        return tape.size();
    }

    String text(int n) {
        StringBuilder s = new StringBuilder();
        for (int i = 0; i < n; i++) {
            s.append((char) (int) tape.get(i));
        }
        tape.clear();
        return s.toString();
    }

    int law(int n) {
        if (n < 1 || n > 240 || n > tape.size()) {
            return -1;
        }
        String s = text(n);
        int answer = lawFault(s);
        if (answer >= 0) {
            law = s;
            rules = answer;
        }
        return answer;
    }

    /** Goes over the signs with a stack: l the left E of a TEST, r its right one, e the E of a RULE. */
    static int lawFault(String s) {
        StringBuilder open = new StringBuilder();
        String want = "rule";
        int digits = 0;
        int many = 0;
        for (int i = 0; i <= s.length(); i++) {
            char c = i < s.length() ? s.charAt(i) : 0;
            boolean digit = c >= '0' && c <= '9';
            long depth = open.chars().filter(o -> o == '(' || o == '[' || o == '!').count();
            if (want.equals("digits")) {
                if (digit) {
                    if (++digits == 6) {
                        return -2000 - i;
                    }
                    continue;
                }
                want = "behind factor";
            }
            if (want.equals("test")) {
                if (c == '!' || c == '(') {
                    if (depth == 6) {
                        return -5000 - i;
                    }
                    open.append(c);
                    continue;
                }
                open.append('l');
                want = "factor";
            }
            if (want.equals("rule")) {
                if (c == 0 || "glsx".indexOf(c) < 0) {
                    return -1000 - i;
                }
                if (++many == 17) {
                    return -4000 - i;
                }
                if (c == 'x') {
                    want = "(";
                } else {
                    open.append('e');
                    want = "factor";
                }
                continue;
            }
            if (want.equals("(")) {
                if (c != '(') {
                    return -1000 - i;
                }
                open.append('(');
                want = "test";
                continue;
            }
            if (want.equals("factor")) {
                if (c == '[') {
                    if (depth == 6) {
                        return -5000 - i;
                    }
                    open.append('[');
                } else if (digit) {
                    digits = 1;
                    want = "digits";
                } else if (c != 0 && "cavknotw".indexOf(c) >= 0) {
                    want = "behind factor";
                } else {
                    return -1000 - i;
                }
                continue;
            }
            if (want.equals("behind factor")) {
                char in = open.charAt(open.length() - 1);
                if (c != 0 && "+-*/%".indexOf(c) >= 0) {
                    want = "factor";
                    continue;
                }
                if (in == '[' && c == ']') {
                    open.setLength(open.length() - 1);
                    continue;
                }
                if (in == 'e' && c == '(') {
                    open.setLength(open.length() - 1);
                    open.append('(');
                    want = "test";
                    continue;
                }
                if (in == 'l' && c != 0 && "<>=".indexOf(c) >= 0) {
                    open.setCharAt(open.length() - 1, 'r');
                    want = "factor";
                    continue;
                }
                if (in != 'r') {
                    return -1000 - i;
                }
                open.setLength(open.length() - 1);
                want = "behind test";
            }
            if (want.equals("behind test")) {
                while (open.charAt(open.length() - 1) == '!') {
                    open.setLength(open.length() - 1);
                }
                if (c == '&' || c == '|') {
                    want = "test";
                    continue;
                }
                if (c != ')') {
                    return -1000 - i;
                }
                open.setLength(open.length() - 1);
                want = open.length() == 0 ? "behind rule" : "behind test";
                continue;
            }
            if (c == ';') {
                want = "rule";
            } else if (i < s.length()) {
                return -1000 - i;
            }
        }
        return want.equals("behind rule") ? many : -1000 - s.length();
    }

    static final class Refused extends RuntimeException {
        private static final long serialVersionUID = 1;
    }

    /** Reads and reckons at once; what does not matter is read with dead divisions. */
    static final class Reckoner {
        final String s;
        final Map<Character, Integer> facts;
        int at;

        Reckoner(String s, Map<Character, Integer> facts) {
            this.s = s;
            this.facts = facts;
        }

        char c() {
            return at < s.length() ? s.charAt(at) : 0;
        }

        boolean condition(boolean live) {
            boolean holds = part(live);
            while (c() == '|') {
                at++;
                boolean next = part(live && !holds);
                holds = holds || next;
            }
            return holds;
        }

        boolean part(boolean live) {
            boolean holds = test(live);
            while (c() == '&') {
                at++;
                boolean next = test(live && holds);
                holds = holds && next;
            }
            return holds;
        }

        boolean test(boolean live) {
            if (c() == '!') {
                at++;
                return !test(live);
            }
            if (c() == '(') {
                at++;
                boolean holds = condition(live);
                at++;
                return holds;
            }
            int one = expression(live);
            char than = c();
            at++;
            int other = expression(live);
            return than == '<' ? one < other : than == '>' ? one > other : one == other;
        }

        int expression(boolean live) {
            int value = term(live);
            while (c() == '+' || c() == '-') {
                boolean plus = c() == '+';
                at++;
                int next = term(live);
                value = plus ? value + next : value - next;
            }
            return value;
        }

        int term(boolean live) {
            int value = factor(live);
            while (c() == '*' || c() == '/' || c() == '%') {
                char sign = c();
                at++;
                int next = factor(live);
                if (sign == '*') {
                    value = value * next;
                } else if (next == 0) {
                    if (live) {
                        throw new Refused();
                    }
                } else {
                    value = sign == '/' ? value / next : value % next;
                }
            }
            return value;
        }

        int factor(boolean live) {
            if (c() == '[') {
                at++;
                int value = expression(live);
                at++;
                return value;
            }
            if (c() >= 'a') {
                at++;
                return facts.get(s.charAt(at - 1));
            }
            int from = at;
            while (c() >= '0' && c() <= '9') {
                at++;
            }
            return Integer.parseInt(s.substring(from, at));
        }
    }

    /** What the rules of a kind answer: null if none holds. */
    Integer ruled(char kind, Map<Character, Integer> facts) {
        if (rules == 0) {
            return null;
        }
        for (String rule : law.split(";")) {
            if (rule.charAt(0) != kind) {
                continue;
            }
            int open = rule.indexOf('(');
            boolean holds;
            try {
                holds = new Reckoner(rule.substring(open + 1), facts).condition(true);
            } catch (Refused e) {
                holds = false;
            }
            if (!holds) {
                continue;
            }
            if (kind == 'x') {
                return 1;
            }
            try {
                return new Reckoner(rule.substring(1, open), facts).expression(true);
            } catch (Refused e) {
                return 0;
            }
        }
        return null;
    }

    static int bound(Integer value, int most) {
        return value == null ? 0 : value < 0 ? 0 : value > most ? most : value;
    }

    int day(State s) {
        int right = 0;
        for (int c = 0; c < 8; c++) {
            int[] clock = s.clocks.get(c);
            if (clock == null) {
                continue;
            }
            s.x = (int) ((25173L * s.x + 13849) % 65536);
            int others = 0;
            for (Map.Entry<Integer, int[]> e : s.clocks.entrySet()) {
                others += e.getKey() != c && e.getValue()[0] == clock[0] ? 1 : 0;
            }
            Map<Character, Integer> facts = Map.of('c', c, 'a', clock[0], 'v', clock[1] + 99, 'k', clock[2],
                'n', others, 'o', shorter(0, clock[0], rd()), 't', s.day % 100, 'w', s.x % 10);
            int stands = bound(ruled('s', facts), 999);
            int more = bound(ruled('g', facts), 20);
            int less = bound(ruled('l', facts), 20);
            boolean set = ruled('x', facts) != null;
            int ahead = clock[0] + (int) Math.floor(rd() * clock[1] / 1000.0) - stands;
            while (ahead < 0) {
                ahead += rd();
            }
            clock[0] = ahead % rd();
            clock[1] = Math.max(-99, Math.min(99, clock[1] + more - less));
            if (set) {
                clock[0] = 0;
                clock[2] = Math.min(9999, clock[2] + 1);
                right++;
            }
        }
        s.day++;
        return right;
    }

    int clocks(int n) {
        if (n < 1 || n > 120 || n > tape.size()) {
            return -1;
        }
        String s = text(n);
        Map<Integer, int[]> found = new HashMap<>();
        int i = 0;
        while (true) {
            if (i >= n || s.charAt(i) < 'a' || s.charAt(i) > 'h') {
                return -1000 - i;
            }
            int clock = s.charAt(i) - 'a';
            if (found.containsKey(clock)) {
                return -6000 - i;
            }
            i++;
            if (i >= n || s.charAt(i) != '@') {
                return -1000 - i;
            }
            i++;
            int from = i;
            while (i < n && Character.isDigit(s.charAt(i)) && s.charAt(i) < 128) {
                i++;
            }
            if (i == from) {
                return -1000 - i;
            }
            if (i - from > 4) {
                return -2000 - (from + 4);
            }
            int ahead = Integer.parseInt(s.substring(from, i));
            if (!time(ahead)) {
                return -3000 - from;
            }
            int gain = 0;
            if (i < n && (s.charAt(i) == '+' || s.charAt(i) == '-')) {
                boolean minus = s.charAt(i) == '-';
                i++;
                from = i;
                while (i < n && s.charAt(i) >= '0' && s.charAt(i) <= '9') {
                    i++;
                }
                if (i == from) {
                    return -1000 - i;
                }
                if (i - from > 2) {
                    return -2000 - (from + 2);
                }
                gain = Integer.parseInt(s.substring(from, i));
                gain = minus ? -gain : gain;
            }
            found.put(clock, new int[] {ahead, gain, 0});
            if (i == n) {
                now.clocks = found;
                return found.size();
            }
            if (s.charAt(i) != ';') {
                return -1000 - i;
            }
            i++;
        }
    }

    int book(int n) {
        if (n < 1 || n > 160 || n > tape.size()) {
            return -1;
        }
        String s = text(n);
        List<int[]> found = new ArrayList<>();
        int[] line = new int[4];
        int digits = 0;
        int from = 0;
        String want = "one";
        for (int i = 0; i <= n; i++) {
            int c = i < n ? s.charAt(i) : -1;
            boolean letter = c >= 'a' && c <= 'h';
            boolean digit = c >= '0' && c <= '9';
            switch (want) {
                case "one":
                    if (!letter) {
                        return -1000 - i;
                    }
                    if (found.size() == 16) {
                        return -4000 - i;
                    }
                    line = new int[4];
                    line[0] = c - 'a';
                    want = "other";
                    break;
                case "other":
                    if (!letter) {
                        return -1000 - i;
                    }
                    line[1] = c - 'a';
                    if (line[0] == line[1]) {
                        return -6000 - i;
                    }
                    want = "@";
                    break;
                case "@":
                    if (c != '@') {
                        return -1000 - i;
                    }
                    digits = 0;
                    from = i + 1;
                    want = "time";
                    break;
                case "time":
                    if (digit) {
                        if (++digits == 5) {
                            return -2000 - i;
                        }
                        line[2] = line[2] * 10 + c - '0';
                        break;
                    }
                    if (digits > 0 && !time(line[2])) {
                        return -3000 - from;
                    }
                    if (digits == 0 || c != ':') {
                        return -1000 - i;
                    }
                    digits = 0;
                    want = "ticks";
                    break;
                default:
                    if (digit) {
                        if (++digits == 3) {
                            return -2000 - i;
                        }
                        line[3] = line[3] * 10 + c - '0';
                        break;
                    }
                    if (digits == 0 || (c != ';' && i < n)) {
                        return -1000 - i;
                    }
                    found.add(line);
                    want = "one";
                    break;
            }
        }
        book = found;
        return found.size();
    }

    int reads(int t, int what) {
        if (!time(t) || what < 0 || what > 5) {
            return -1;
        }
        if (what == 0) {
            return t / r;
        }
        if (what == 1) {
            return t % d;
        }
        if (what == 2) {
            return like(t).size();
        }
        if (what == 3) {
            for (int k = 1; k < rd(); k++) {
                if (like(t).contains((t + k) % rd())) {
                    return (t + k) % rd();
                }
            }
            return t;
        }
        if (what == 4) {
            List<Integer> times = table().get(mirrored(t));
            return times == null ? -2 : times.get(0);
        }
        return shorter(t / r, t % d, d);
    }

    Set<Integer> mirrored(int t) {
        Set<Integer> marks = new HashSet<>();
        for (int m : hands(t)) {
            marks.add((d - m) % d);
        }
        return marks;
    }

    int exchanged(int t) {
        if (!time(t)) {
            return -1;
        }
        for (int u = 0; u < rd(); u++) {
            if (u / r == t % d && u % d == t / r) {
                return u;
            }
        }
        return -2;
    }

    int mirrors(int what) {
        if (what < 0 || what > 1) {
            return -1;
        }
        int many = 0;
        for (int t = 0; t < rd(); t++) {
            boolean like = what == 0 ? table().containsKey(mirrored(t)) : mirrored(t).equals(hands(t));
            many += like ? 1 : 0;
        }
        return many;
    }

    int bestDial(int marks, int what) {
        if (marks < 4 || marks > 60 || what < 0 || what > 1) {
            return -1;
        }
        int best = 0;
        int fewest = 0;
        for (int turns = 24; turns >= 2; turns--) {
            PlainTown other = new PlainTown();
            other.dial(marks, turns);
            int many = other.untold(0);
            if (best == 0 || (long) many * best * marks <= (long) fewest * turns * marks) {
                best = turns;
                fewest = many;
            }
        }
        return what == 0 ? best : fewest;
    }

    int untold(int what) {
        List<Integer> not = new ArrayList<>();
        for (int t = 0; t < rd(); t++) {
            if (!told(t)) {
                not.add(t);
            }
        }
        if (what == 0) {
            return not.size();
        }
        if (what == 1) {
            return not.isEmpty() ? -2 : not.get(0);
        }
        if (what != 2 && what != 3) {
            return -1;
        }
        int longest = 0;
        for (int t = 0; t < rd(); t++) {
            int k = 0;
            while (k < rd() && told((t + k) % rd()) == (what == 3)) {
                k++;
            }
            longest = Math.max(longest, k);
        }
        return longest;
    }

    int till(int t) {
        if (!time(t)) {
            return -1;
        }
        for (int k = 0; k < rd(); k++) {
            if (told((t + k) % rd())) {
                return k;
            }
        }
        return -2;
    }

    int glance(int t) {
        if (!time(t)) {
            return -1;
        }
        for (int k = 1; k < rd(); k++) {
            boolean tells = true;
            for (int u : like(t)) {
                if (u != t && hands((u + k) % rd()).equals(hands((t + k) % rd()))) {
                    tells = false;
                }
            }
            if (tells) {
                return k;
            }
        }
        return -2;
    }

    int covered(int t) {
        if (t < -1 || t >= rd()) {
            return -1;
        }
        int many = 0;
        for (int u = 0; u < rd(); u++) {
            many += hands(u).size() == 1 ? 1 : 0;
        }
        if (t == -1) {
            return many;
        }
        int u = t;
        while (hands(u).size() > 1) {
            u = (u + 1) % rd();
        }
        return u;
    }

    int apart(int marks) {
        if (marks < 0 || marks > 30) {
            return -1;
        }
        int many = 0;
        for (int t = 0; t < rd(); t++) {
            many += shorter(t / r, t % d, d) == marks ? 1 : 0;
        }
        return many;
    }

    List<List<Integer>> photos(int n) {
        List<List<Integer>> found = new ArrayList<>();
        boolean wrong = false;
        for (int i = 0; i < n; i++) {
            int one = tape.get(2 * i);
            int other = tape.get(2 * i + 1);
            wrong |= one >= d || other >= d;
            Set<Integer> marks = new HashSet<>();
            marks.add(one);
            marks.add(other);
            found.add(table().getOrDefault(marks, List.of()));
        }
        tape.clear();
        return wrong ? null : found;
    }

    Set<Integer> behind(int t, int least, int most) {
        Set<Integer> times = new TreeSet<>();
        for (int k = least; k <= most; k++) {
            times.add((t + k) % rd());
        }
        return times;
    }

    /** For each TIME of the last photograph: in how many rows. */
    Map<Integer, Long> rows(List<List<Integer>> photos, int least, int most) {
        Map<Integer, Long> ways = new HashMap<>();
        for (int t : photos.get(0)) {
            ways.put(t, 1L);
        }
        for (int i = 1; i < photos.size(); i++) {
            Map<Integer, Long> next = new HashMap<>();
            for (Map.Entry<Integer, Long> e : ways.entrySet()) {
                for (int t : behind(e.getKey(), least, most)) {
                    if (photos.get(i).contains(t)) {
                        next.merge(t, e.getValue(), Long::sum);
                    }
                }
            }
            ways = next;
        }
        return ways;
    }

    static long sum(Map<Integer, Long> ways) {
        long sum = 0;
        for (long w : ways.values()) {
            sum += w;
        }
        return sum;
    }

    int photographs(int n, int least, int most, int what) {
        if (n < 1 || n > 8 || least < 0 || most < least || most > 99 || tape.size() < 2 * n
            || !(what == 100 || (what >= 0 && what < n))) {
            return -1;
        }
        List<List<Integer>> photos = photos(n);
        if (photos == null) {
            return -3;
        }
        if (what == 100) {
            return (int) Math.min(1000000000L, sum(rows(photos, least, most)));
        }
        List<Integer> can = new ArrayList<>();
        for (int t : photos.get(what)) {
            List<List<Integer>> fixed = new ArrayList<>(photos);
            fixed.set(what, List.of(t));
            if (sum(rows(fixed, least, most)) > 0) {
                can.add(t);
            }
        }
        return can.isEmpty() ? -4 : can.size() > 1 ? -2 : can.get(0);
    }

    int anyOrder(int n, int least, int most, int what) {
        if (n < 1 || n > 6 || least < 0 || most < least || most > 99 || tape.size() < 2 * n || what < 0 || what > 1) {
            return -1;
        }
        List<List<Integer>> photos = photos(n);
        if (photos == null) {
            return -3;
        }
        long[] all = new long[2];
        orders(photos, new ArrayList<>(), least, most, all);
        return (int) Math.min(1000000000L, all[what]);
    }

    void orders(List<List<Integer>> photos, List<Integer> order, int least, int most, long[] all) {
        if (order.size() == photos.size()) {
            List<List<Integer>> row = new ArrayList<>();
            for (int i : order) {
                row.add(photos.get(i));
            }
            long ways = sum(rows(row, least, most));
            all[0] += ways;
            all[1] |= ways > 0 ? 1 << order.get(0) : 0;
            return;
        }
        for (int i = 0; i < photos.size(); i++) {
            if (!order.contains(i)) {
                order.add(i);
                orders(photos, order, least, most, all);
                order.remove(order.size() - 1);
            }
        }
    }

    int strokesAt(int t, boolean halves) {
        if (t % d == 0) {
            return t == 0 ? r : t / d;
        }
        return halves && t % d == d / 2 ? 1 : 0;
    }

    List<Integer> strikes(boolean halves) {
        List<Integer> times = new ArrayList<>();
        for (int t = 0; t < rd(); t++) {
            if (strokesAt(t, halves) > 0) {
                times.add(t);
            }
        }
        return times;
    }

    int quiet(boolean halves) {
        int longest = 0;
        int since = 0;
        for (int t = 1; t <= rd(); t++) {
            since++;
            if (strokesAt(t % rd(), halves) > 0) {
                longest = Math.max(longest, since);
                since = 0;
            }
        }
        return longest;
    }

    int strokesTill(int t, int many, boolean halves) {
        if (!time(t) || many < 1 || many > 9999) {
            return -1;
        }
        int heard = 0;
        int k = -1;
        while (heard < many) {
            k++;
            heard += strokesAt((t + k) % rd(), halves);
        }
        return k;
    }

    int strokes(int from, int to, boolean halves) {
        if (!time(from) || !time(to) || from > to) {
            return -1;
        }
        int heard = 0;
        for (int t = from; t <= to; t++) {
            heard += strokesAt(t, halves);
        }
        return heard;
    }

    List<Integer> window(int first, int n, boolean halves) {
        List<Integer> times = strikes(halves);
        List<Integer> heard = new ArrayList<>();
        for (int i = 0; i < n; i++) {
            heard.add(strokesAt(times.get((first + i) % times.size()), halves));
        }
        return heard;
    }

    int heard(int n, boolean halves, int what) {
        if (n < 1 || n > 12 || what < 0 || what > 1 || tape.size() < n) {
            return -1;
        }
        List<Integer> heard = new ArrayList<>(tape.subList(0, n));
        tape.clear();
        List<Integer> times = strikes(halves);
        List<Integer> lasts = new ArrayList<>();
        for (int first = 0; first < times.size(); first++) {
            if (window(first, n, halves).equals(heard)) {
                lasts.add(times.get((first + n - 1) % times.size()));
            }
        }
        return what == 0 ? lasts.size() : lasts.isEmpty() ? -4 : lasts.size() > 1 ? -2 : lasts.get(0);
    }

    int listen(boolean halves) {
        int all = strikes(halves).size();
        for (int n = 1; n < all; n++) {
            Set<List<Integer>> seen = new HashSet<>();
            for (int first = 0; first < all; first++) {
                seen.add(window(first, n, halves));
            }
            if (seen.size() == all) {
                return n;
            }
        }
        return all;
    }

    int towers(int later, boolean halves, int what) {
        if (!time(later) || what < 0 || what > 1) {
            return -1;
        }
        int both = 0;
        int most = 0;
        for (int t = 0; t < rd(); t++) {
            int one = strokesAt((t + later) % rd(), halves);
            int other = strokesAt(t, halves);
            both += one > 0 && other > 0 ? 1 : 0;
            most = Math.max(most, one + other);
        }
        return what == 0 ? both : most;
    }

    int wheels(int least, int most, int what) {
        if (least < 6 || most > 40 || least > most || what < 0 || what > 1) {
            return -1;
        }
        int ways = 0;
        int fewest = Integer.MAX_VALUE;
        for (int a = least; a <= most; a++) {
            for (int b = least; b <= most; b++) {
                for (int c = least; c <= most; c++) {
                    for (int e = least; e <= most; e++) {
                        if (b * e == r * a * c) {
                            ways++;
                            fewest = Math.min(fewest, a + b + c + e);
                        }
                    }
                }
            }
        }
        return what == 0 ? ways : ways == 0 ? -2 : fewest;
    }

    int shown(State s, int c, int tick) {
        int[] clock = s.clocks.get(c);
        int gained = (int) Math.floor(tick * clock[1] / 1000.0);
        return ((clock[0] + tick + gained) % rd() + rd()) % rd();
    }

    boolean has(int c) {
        return now.clocks.containsKey(c);
    }

    boolean two(int one, int other) {
        return has(one) && has(other) && one != other;
    }

    int shows(int c, int tick) {
        return has(c) && time(tick) ? shown(now, c, tick) : -1;
    }

    static int which(List<Integer> found, int what) {
        return what == 0 ? found.size() : found.isEmpty() ? -2 : found.get(0);
    }

    int clockIs(int c, int what) {
        if (!has(c) || what < 0 || what > 4) {
            return -1000;
        }
        if (what < 3) {
            return now.clocks.get(c)[what];
        }
        List<Integer> right = new ArrayList<>();
        for (int t = 0; t < rd(); t++) {
            if (shown(now, c, t) == t) {
                right.add(t);
            }
        }
        return which(right, what - 3);
    }

    int agree(int one, int other, boolean alike, int what) {
        if (!two(one, other) || what < 0 || what > 1) {
            return -1;
        }
        List<Integer> found = new ArrayList<>();
        for (int t = 0; t < rd(); t++) {
            int a = shown(now, one, t);
            int b = shown(now, other, t);
            if (alike ? hands(a).equals(hands(b)) : a == b) {
                found.add(t);
            }
        }
        return which(found, what);
    }

    int agreeing(int one, int other) {
        if (!two(one, other)) {
            return -1;
        }
        int longest = 0;
        for (int from = 0; from < rd(); from++) {
            int t = from;
            while (t < rd() && shown(now, one, t) == shown(now, other, t)) {
                t++;
            }
            longest = Math.max(longest, t - from);
        }
        return longest;
    }

    List<Integer> shownAt(int tick) {
        List<Integer> times = new ArrayList<>();
        for (int c = 0; c < 8; c++) {
            if (has(c)) {
                times.add(shown(now, c, tick));
            }
        }
        return times;
    }

    int all(int what) {
        if (what < 0 || what > 1) {
            return -1;
        }
        List<Integer> found = new ArrayList<>();
        for (int t = 0; t < rd(); t++) {
            if (new HashSet<>(shownAt(t)).size() <= 1) {
                found.add(t);
            }
        }
        return which(found, what);
    }

    int nearest(int tick, int what) {
        if (!time(tick) || what < 0 || what > 1) {
            return -1;
        }
        int best = -2;
        int least = -2;
        for (int c = 7; c >= 0; c--) {
            if (has(c)) {
                int off = shorter(shown(now, c, tick), tick, rd());
                if (best < 0 || off <= least) {
                    best = c;
                    least = off;
                }
            }
        }
        return what == 0 ? best : least;
    }

    int most(int tick, int what) {
        if (!time(tick) || what < 0 || what > 1) {
            return -1;
        }
        int best = -2;
        int many = 0;
        for (int t = 0; t < rd(); t++) {
            int showing = 0;
            for (int s : shownAt(tick)) {
                showing += s == t ? 1 : 0;
            }
            if (showing > many) {
                best = t;
                many = showing;
            }
        }
        return what == 0 ? best : many;
    }

    int pairs(int tick, int what) {
        if (!time(tick) || what < 0 || what > 1) {
            return -1;
        }
        List<Integer> times = shownAt(tick);
        int twice = 0;
        for (int i = 0; i < times.size(); i++) {
            for (int j = 0; j < times.size(); j++) {
                boolean same = what == 0 ? (int) times.get(i) == times.get(j) : hands(times.get(i)).equals(hands(times.get(j)));
                twice += i != j && same ? 1 : 0;
            }
        }
        return twice / 2;
    }

    int spread(int tick) {
        if (!time(tick)) {
            return -1;
        }
        List<Integer> times = new ArrayList<>(new TreeSet<>(shownAt(tick)));
        if (times.size() < 2) {
            return 0;
        }
        int gap = times.get(0) + rd() - times.get(times.size() - 1);
        for (int i = 1; i < times.size(); i++) {
            gap = Math.max(gap, times.get(i) - times.get(i - 1));
        }
        return rd() - gap;
    }

    int there(State s, int c, int t) {
        if (s.clocks.containsKey(c)) {
            for (int tick = 0; tick < rd(); tick++) {
                if (shown(s, c, tick) == t) {
                    return tick;
                }
            }
        }
        return -2;
    }

    int goodTimes(int one, int other, int ticks, int what) {
        if (!two(one, other) || ticks < 0 || ticks > 99 || what < 0 || what > 1) {
            return -1;
        }
        List<Integer> good = new ArrayList<>();
        for (int t = 0; t < rd(); t++) {
            if (meet(now, new int[] {one, other, t, ticks})) {
                good.add(t);
            }
        }
        return which(good, what);
    }

    boolean setBy(int one, int other) {
        if (!two(one, other)) {
            return false;
        }
        int[] clock = now.clocks.get(one);
        clock[0] = now.clocks.get(other)[0];
        clock[2] = Math.min(9999, clock[2] + 1);
        return true;
    }

    boolean meet(State s, int[] line) {
        int a = there(s, line[0], line[2]);
        int b = there(s, line[1], line[2]);
        return a != -2 && b != -2 && Math.max(a, b) - Math.min(a, b) <= line[3];
    }

    int waited(int[] line) {
        int a = there(now, line[0], line[2]);
        int b = there(now, line[1], line[2]);
        if (a == -2 && b == -2) {
            return 0;
        }
        if (a == -2 || b == -2) {
            return line[3];
        }
        return Math.min(line[3], Math.max(a, b) - Math.min(a, b));
    }

    int appointment(int i, int what) {
        if (i < 0 || i >= book.size() || what < 0 || what > 7) {
            return -1;
        }
        int[] line = book.get(i);
        if (what < 4) {
            return line[what];
        }
        if (what < 6) {
            return there(now, line[what - 4], line[2]);
        }
        return what == 6 ? (meet(now, line) ? 1 : 0) : waited(line);
    }

    int met(State s) {
        int many = 0;
        for (int[] line : book) {
            many += meet(s, line) ? 1 : 0;
        }
        return many;
    }

    int meetings(int what) {
        if (what == 0) {
            return met(now);
        }
        int all = 0;
        for (int[] line : book) {
            all += waited(line);
        }
        return what == 1 ? all : -1;
    }

    int pass(State s, int n) {
        int right = 0;
        for (int i = 0; i < n && s.day < 9999; i++) {
            right += day(s);
        }
        return right;
    }

    int days(int n) {
        return n < 1 || n > 100 ? -1 : pass(now, n);
    }

    int tried(int n, int what) {
        if (n < 1 || n > 100) {
            return -1;
        }
        State s = now.copy();
        int right = pass(s, n);
        if (what == 0) {
            return right;
        }
        if (what == 1) {
            return met(s);
        }
        if (what >= 10 && what < 18 && has(what - 10)) {
            return s.clocks.get(what - 10)[0];
        }
        if (what >= 20 && what < 28 && has(what - 20)) {
            return s.clocks.get(what - 20)[1] + 99;
        }
        return -1;
    }

    int together(int one, int other, int n) {
        if (n < 1 || n > 100 || !two(one, other)) {
            return -1;
        }
        State s = now.copy();
        for (int i = 0; i <= n; i++) {
            if (s.clocks.get(one)[0] == s.clocks.get(other)[0]) {
                return i;
            }
            pass(s, 1);
        }
        return -2;
    }

    boolean seed(int x) {
        if (x < 0 || x > 65535) {
            return false;
        }
        now.x = x;
        return true;
    }

    int keep() {
        kept = now.copy();
        keptD = d;
        keptR = r;
        return now.day;
    }

    boolean undo() {
        if (kept == null || keptD != d || keptR != r) {
            return false;
        }
        State back = kept.copy();
        now.clocks.putAll(back.clocks);
        now.day = back.day;
        now.x = back.x;
        return true;
    }

    int check(int n) {
        if (n < 0 || n > 8 || n > tape.size()) {
            return -2;
        }
        List<Integer> bytes = new ArrayList<>(tape.subList(0, n));
        tape.clear();
        for (int c = 0; c < n; c++) {
            int due = has(c) ? now.clocks.get(c)[0] % 256 : 255;
            if (due != bytes.get(c)) {
                return c;
            }
        }
        return -1;
    }

    int count(int what) {
        int bits = 0;
        int sets = 0;
        for (Map.Entry<Integer, int[]> e : now.clocks.entrySet()) {
            bits += 1 << e.getKey();
            sets += e.getValue()[2];
        }
        int[] all = {now.day, bits, book.size(), d, r, rules, tape.size(), now.x, sets};
        return what < 0 || what >= all.length ? -1 : all[what];
    }
}
