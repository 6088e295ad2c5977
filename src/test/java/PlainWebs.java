import java.util.ArrayDeque;
import java.util.ArrayList;
import java.util.Arrays;
import java.util.Deque;
import java.util.List;

/**
 * The document once more, in another way and without care for speed: texts by a machine of states
 * in place of a descent, conditions by cutting their texts, least and most by trying all.
 */
final class PlainWebs {
    private static final int[] DX = {0, 1, 1, 1, 0, -1, -1, -1};
    private static final int[] DY = {-1, -1, 0, 1, 1, 1, 0, -1};

    private List<Integer> tape = new ArrayList<>();
    private int[][] webs = new int[8][];
    private int[][] tensions = new int[8][8];
    private int[][] fleets = new int[8][];
    private List<String> rules = new ArrayList<>();
    private int hour = 0;
    private int drawn = 1;
    private PlainWebs kept = null;

    static final class Refused extends RuntimeException {
        private static final long serialVersionUID = 1L;
    }

    static final class Fault extends RuntimeException {
        private static final long serialVersionUID = 1L;
        final int answer;

        Fault(int number, int place) {
            answer = -1000 * number - place;
        }
    }

    private PlainWebs copy() {
        PlainWebs other = new PlainWebs();
        for (int k = 0; k < 8; k++) {
            other.webs[k] = webs[k] == null ? null : webs[k].clone();
            other.tensions[k] = tensions[k].clone();
            other.fleets[k] = fleets[k] == null ? null : fleets[k].clone();
        }
        other.rules = rules;
        other.hour = hour;
        other.drawn = drawn;
        return other;
    }

    private boolean web(int p) {
        return p >= 0 && p <= 7 && webs[p] != null;
    }

    private boolean fleet(int f) {
        return f >= 0 && f <= 7 && fleets[f] != null;
    }

    private int[] take(int n) {
        int[] bytes = new int[n];
        for (int k = 0; k < n; k++) {
            bytes[k] = tape.get(k);
        }
        tape.clear();
        return bytes;
    }

    private String takeText(int n) {
        StringBuilder text = new StringBuilder();
        for (int one : take(n)) {
            text.append((char) one);
        }
        return text.toString();
    }

    boolean tension(int p, int spoke, int v) {
        if (!web(p) || spoke < 0 || spoke > 7 || v < 0 || v > 99) {
            return false;
        }
        tensions[p][spoke] = v;
        return true;
    }

    int feed(int... five) {
        if (tape.size() > 240) {
            return -1;
        }
        for (int one : five) {
            for (int shift = 24; shift >= 0; shift -= 8) {
                tape.add(one >>> shift & 255);
            }
        }
        return tape.size();
    }

    // ---- the law

    int law(int n) {
        if (n < 1 || n > 240 || tape.size() < n) {
            return -1;
        }
        String text = takeText(n);
        try {
            testLaw(text);
        } catch (Fault fault) {
            return fault.answer;
        }
        rules = Arrays.asList(text.split(";"));
        return rules.size();
    }

    private enum State { RULE, TEST, FACTOR, DIGITS, BEHIND_FACTOR, BEHIND_TEST, BEHIND_RULE }

    private static void testLaw(String text) {
        Deque<Character> open = new ArrayDeque<>();
        State state = State.RULE;
        int digits = 0;
        int ruleCount = 0;
        for (int i = 0; i <= text.length(); i++) {
            char c = i < text.length() ? text.charAt(i) : '\n';
            boolean again = true;
            while (again) {
                again = false;
                switch (state) {
                    case RULE:
                        need("tmx", c, i);
                        if (++ruleCount > 16) {
                            throw new Fault(4, i);
                        }
                        if (c == 'x') {
                            open.push('X');
                        } else {
                            open.push('E');
                        }
                        state = c == 'x' ? State.BEHIND_FACTOR : State.FACTOR;
                        break;
                    case TEST:
                        if (c == '!' || c == '(') {
                            open(open, c, i);
                        } else {
                            open.push('L');
                            state = State.FACTOR;
                            again = true;
                        }
                        break;
                    case FACTOR:
                        need("[0123456789pfsvdgrchw", c, i);
                        if (c == '[') {
                            open(open, c, i);
                        } else if (c <= '9') {
                            digits = 1;
                            state = State.DIGITS;
                        } else {
                            state = State.BEHIND_FACTOR;
                        }
                        break;
                    case DIGITS:
                        if (c >= '0' && c <= '9') {
                            if (++digits > 5) {
                                throw new Fault(2, i);
                            }
                        } else {
                            state = State.BEHIND_FACTOR;
                            again = true;
                        }
                        break;
                    case BEHIND_FACTOR:
                        char top = open.peek();
                        if (top != 'X' && "+-*/%".indexOf(c) >= 0) {
                            state = State.FACTOR;
                        } else if (top == 'X' || top == 'E') {
                            need("(", c, i);
                            open.pop();
                            open.push('(');
                            state = State.TEST;
                        } else if (top == '[') {
                            need("]", c, i);
                            open.pop();
                        } else if (top == 'L') {
                            need("<>=", c, i);
                            open.pop();
                            open.push('R');
                            state = State.FACTOR;
                        } else {
                            open.pop();
                            endTest(open);
                            state = State.BEHIND_TEST;
                            again = true;
                        }
                        break;
                    case BEHIND_TEST:
                        need("&|)", c, i);
                        state = State.TEST;
                        if (c == ')') {
                            open.pop();
                            endTest(open);
                            state = open.isEmpty() ? State.BEHIND_RULE : State.BEHIND_TEST;
                        }
                        break;
                    default:
                        if (i < text.length()) {
                            need(";", c, i);
                        }
                        state = State.RULE;
                }
            }
        }
    }

    private static void endTest(Deque<Character> open) {
        while (!open.isEmpty() && open.peek() == '!') {
            open.pop();
        }
    }

    private static void open(Deque<Character> open, char c, int i) {
        long counted = open.stream().filter(o -> "([!".indexOf(o) >= 0).count();
        if (counted >= 6) {
            throw new Fault(5, i);
        }
        open.push(c);
    }

    private static void need(String signs, char c, int i) {
        if (signs.indexOf(c) < 0) {
            throw new Fault(1, i);
        }
    }

    /** Where the last of some signs stands that is in no bracket, or -1. */
    private static int lastOutside(String text, String signs) {
        int depth = 0;
        for (int i = text.length() - 1; i >= 0; i--) {
            char c = text.charAt(i);
            if (c == ')' || c == ']') {
                depth++;
            } else if (c == '(' || c == '[') {
                depth--;
            } else if (depth == 0 && signs.indexOf(c) >= 0) {
                return i;
            }
        }
        return -1;
    }

    private static int worth(String e, int[] letters) {
        int i = lastOutside(e, "+-");
        if (i < 0) {
            i = lastOutside(e, "*/%");
        }
        if (i >= 0) {
            int a = worth(e.substring(0, i), letters);
            int b = worth(e.substring(i + 1), letters);
            char sign = e.charAt(i);
            if ((sign == '/' || sign == '%') && b == 0) {
                throw new Refused();
            }
            return sign == '+' ? a + b : sign == '-' ? a - b : sign == '*' ? a * b
                    : sign == '/' ? a / b : a % b;
        }
        if (e.charAt(0) == '[') {
            return worth(e.substring(1, e.length() - 1), letters);
        }
        int letter = "pfsvdgrchw".indexOf(e.charAt(0));
        return letter >= 0 ? letters[letter] : Integer.parseInt(e);
    }

    private static boolean holds(String c, int[] letters) {
        int i = lastOutside(c, "|");
        if (i >= 0) {
            return holds(c.substring(0, i), letters) || holds(c.substring(i + 1), letters);
        }
        i = lastOutside(c, "&");
        if (i >= 0) {
            return holds(c.substring(0, i), letters) && holds(c.substring(i + 1), letters);
        }
        if (c.charAt(0) == '!') {
            return !holds(c.substring(1), letters);
        }
        if (c.charAt(0) == '(') {
            return holds(c.substring(1, c.length() - 1), letters);
        }
        i = lastOutside(c, "<>=");
        int a = worth(c.substring(0, i), letters);
        int b = worth(c.substring(i + 1), letters);
        return c.charAt(i) == '<' ? a < b : c.charAt(i) == '>' ? a > b : a == b;
    }

    /** -1: no rule of this kind holds. */
    private int byLaw(char kind, int[] letters) {
        for (String rule : rules) {
            int bracket = rule.indexOf('(');
            if (rule.charAt(0) != kind) {
                continue;
            }
            try {
                if (!holds(rule.substring(bracket), letters)) {
                    continue;
                }
            } catch (Refused refused) {
                continue;
            }
            if (kind == 'x') {
                return 1;
            }
            try {
                return Math.max(0, Math.min(99, worth(rule.substring(1, bracket), letters)));
            } catch (Refused refused) {
                return 0;
            }
        }
        return -1;
    }

    // ---- the chart

    int chart(int n) {
        if (n < 1 || n > 160 || tape.size() < n) {
            return -1;
        }
        String text = takeText(n);
        int[][] newWebs = new int[8][];
        int[][] newFleets = new int[8][];
        int lines = 0;
        try {
            int i = 0;
            while (true) {
                char who = at(text, i);
                need("abcdefghABCDEFGH", who, i);
                boolean isWeb = who >= 'a';
                if (++lines > 24) {
                    throw new Fault(4, i);
                }
                int k = isWeb ? who - 'a' : who - 'A';
                if ((isWeb ? newWebs : newFleets)[k] != null) {
                    throw new Fault(6, i);
                }
                need("@", at(text, i + 1), i + 1);
                i = numberEnd(text, i + 2, 23);
                int x = numberBefore(text, i);
                need(",", at(text, i), i);
                i = numberEnd(text, i + 1, 15);
                int y = numberBefore(text, i);
                if (isWeb) {
                    newWebs[k] = new int[] {x, y};
                } else {
                    need(":", at(text, i), i);
                    i = numberEnd(text, i + 1, 99);
                    int force = numberBefore(text, i);
                    int course = -2;
                    if (at(text, i) == '>') {
                        need("01234567", at(text, i + 1), i + 1);
                        course = at(text, i + 1) - '0';
                        i += 2;
                    }
                    newFleets[k] = new int[] {x, y, force, course};
                }
                if (i == text.length()) {
                    break;
                }
                need(";", at(text, i), i);
                i++;
            }
        } catch (Fault fault) {
            return fault.answer;
        }
        webs = newWebs;
        fleets = newFleets;
        for (int[] row : tensions) {
            Arrays.fill(row, 99);
        }
        return lines;
    }

    private static char at(String text, int i) {
        return i < text.length() ? text.charAt(i) : '\n';
    }

    private static int numberEnd(String text, int from, int most) {
        need("0123456789", at(text, from), from);
        int to = from;
        while (Character.isDigit(at(text, to))) {
            if (to - from == 2) {
                throw new Fault(2, to);
            }
            to++;
        }
        if (Integer.parseInt(text.substring(from, to)) > most) {
            throw new Fault(3, from);
        }
        return to;
    }

    private static int numberBefore(String text, int end) {
        int from = end;
        while (Character.isDigit(text.charAt(from - 1))) {
            from--;
        }
        return Integer.parseInt(text.substring(from, end));
    }

    // ---- hours

    private static int distance(int[] a, int[] b) {
        return Math.max(Math.abs(a[0] - b[0]), Math.abs(a[1] - b[1]));
    }

    /** By eighths of a turn: up is 0, and Y grows down. */
    private static int towards(int[] web, int x, int y) {
        int a = Math.abs(x - web[0]);
        int b = Math.abs(y - web[1]);
        int dx = 2 * b < a || 2 * a >= b ? Integer.signum(x - web[0]) : 0;
        int dy = 2 * b < a ? 0 : Integer.signum(y - web[1]);
        for (int s = 0; s < 8; s++) {
            if (DX[s] == dx && DY[s] == dy) {
                return s;
            }
        }
        return 0;
    }

    private static void move(int[] fleet) {
        if (fleet == null || fleet[3] < 0) {
            return;
        }
        int x = fleet[0] + DX[fleet[3]];
        int y = fleet[1] + DY[fleet[3]];
        if (x < 0 || x > 23 || y < 0 || y > 15) {
            fleet[3] = fleet[3] >= 4 ? fleet[3] - 4 : fleet[3] + 4;
        } else {
            fleet[0] = x;
            fleet[1] = y;
        }
    }

    private int slack(int p) {
        return (int) Arrays.stream(tensions[p]).filter(v -> v == 0).count();
    }

    private int hour() {
        int touches = 0;
        for (int[] fleet : fleets) {
            move(fleet);
        }
        for (int p = 0; p < 8; p++) {
            if (!web(p)) {
                continue;
            }
            boolean[] touched = new boolean[8];
            for (int f = 0; f < 8; f++) {
                if (!fleet(f) || fleets[f][2] <= distance(webs[p], fleets[f])) {
                    continue;
                }
                drawn = (int) ((25173L * drawn + 13849L) & 0xffff);
                int s = towards(webs[p], fleets[f][0], fleets[f][1]);
                int d = distance(webs[p], fleets[f]);
                int course = fleets[f][3] < 0 ? 8 : fleets[f][3];
                int[] letters = {p, f, s, tensions[p][s], d, fleets[f][2] - d, slack(p), course, hour % 24, drawn % 10};
                if (byLaw('x', letters) < 0 && tensions[p][s] > 0) {
                    touches++;
                    touched[s] = true;
                    tensions[p][s] = Math.max(0, tensions[p][s] - Math.max(0, byLaw('t', letters)));
                }
            }
            for (int s = 0; s < 8; s++) {
                if (!touched[s]) {
                    int[] letters = {p, 8, s, tensions[p][s], 0, 0, slack(p), 8, hour % 24, 0};
                    tensions[p][s] = Math.min(99, tensions[p][s] + Math.max(0, byLaw('m', letters)));
                }
            }
        }
        hour++;
        return touches;
    }

    int hours(int n) {
        if (n < 1 || n > 100) {
            return -1;
        }
        int touches = 0;
        for (int k = 0; k < n && hour < 9999; k++) {
            touches += hour();
        }
        return touches;
    }

    int tried(int n, int what) {
        PlainWebs other = copy();
        int touches = other.hours(n);
        if (touches == -1 || what < 0) {
            return -1;
        }
        if (what == 0) {
            return touches;
        }
        if (what == 1) {
            int all = 0;
            for (int p = 0; p < 8; p++) {
                all += web(p) ? other.slack(p) : 0;
            }
            return all;
        }
        if (what >= 10 && what < 20 && web(what - 10)) {
            return Arrays.stream(other.tensions[what - 10]).sum();
        }
        if (what >= 20 && what < 30) {
            return other.fleetIs(what - 20, 0);
        }
        return what >= 30 ? other.fleetIs(what - 30, 2) : -1;
    }

    int webIs(int p, int what) {
        if (!web(p)) {
            return -1;
        }
        if (what >= 0 && what < 8) {
            return tensions[p][what];
        }
        if (what == 10) {
            return webs[p][0] + 24 * webs[p][1];
        }
        if (what != 11) {
            return -1;
        }
        int bits = 0;
        for (int s = 7; s >= 0; s--) {
            bits = 2 * bits + (tensions[p][s] == 0 ? 1 : 0);
        }
        return bits;
    }

    int fleetIs(int f, int what) {
        if (!fleet(f) || what < 0 || what > 2) {
            return -1;
        }
        return what == 0 ? fleets[f][0] + 24 * fleets[f][1] : fleets[f][what + 1];
    }

    // ---- the look-out

    int feels(int p, int what) {
        if (!web(p) || what < 0 || what > 2) {
            return -1;
        }
        for (int much = 99; much > 0; much--) {
            for (int f = 0; f < 8; f++) {
                if (fleet(f) && fleets[f][2] - distance(webs[p], fleets[f]) == much) {
                    return what == 0 ? f : what == 2 ? much : towards(webs[p], fleets[f][0], fleets[f][1]);
                }
            }
        }
        return -2;
    }

    int when(int p, int f, int n) {
        if (!web(p) || !fleet(f) || n < 1 || n > 100) {
            return -1;
        }
        int[] fleet = fleets[f].clone();
        for (int k = 0; k <= n; k++) {
            if (fleet[2] > distance(webs[p], fleet)) {
                return k;
            }
            move(fleet);
        }
        return -2;
    }

    int fix(int n, int what) {
        if (n < 1 || n > 8 || what < 0 || what > 1 || tape.size() < 2 * n) {
            return -1;
        }
        int[] bytes = take(2 * n);
        boolean[] out = new boolean[384];
        for (int k = 0; k < n; k++) {
            if (!web(bytes[2 * k]) || bytes[2 * k + 1] > 7) {
                return -3;
            }
            for (int place = 0; place < 384; place++) {
                out[place] |= towards(webs[bytes[2 * k]], place % 24, place / 24) != bytes[2 * k + 1];
            }
        }
        return countOrFirst(out, what);
    }

    private static int countOrFirst(boolean[] out, int what) {
        int places = 0;
        int first = -2;
        for (int place = 383; place >= 0; place--) {
            if (!out[place]) {
                places++;
                first = place;
            }
        }
        return what == 0 ? places : first;
    }

    int bearings(int p, int a, int q, int b) {
        if (!web(p) || !web(q) || p == q || a < 0 || a > 7 || b < 0 || b > 7) {
            return -1;
        }
        for (int i = 1; i < 24; i++) {
            for (int j = 1; j < 24; j++) {
                int x = webs[p][0] + i * DX[a];
                int y = webs[p][1] + i * DY[a];
                if (x == webs[q][0] + j * DX[b] && y == webs[q][1] + j * DY[b]
                        && x >= 0 && x < 24 && y >= 0 && y < 16) {
                    return 24 * y + x;
                }
            }
        }
        return -2;
    }

    private boolean reached(int place, int reach, int bits) {
        for (int p = 0; p < 8; p++) {
            if ((bits >> p & 1) == 1 && web(p) && distance(webs[p], new int[] {place % 24, place / 24}) <= reach) {
                return true;
            }
        }
        return false;
    }

    int allTheSea(int reach, int what) {
        if (reach < 0 || reach > 23 || what < 0 || what > 1) {
            return -1;
        }
        for (int many = 1; many <= 8; many++) {
            for (int bits = 0; bits < 256; bits++) {
                boolean do_ = Integer.bitCount(bits) == many;
                for (int place = 0; place < 384 && do_; place++) {
                    do_ = reached(place, reach, bits);
                }
                if (do_) {
                    return what == 0 ? many : bits;
                }
            }
        }
        return -2;
    }

    int quiet(int reach, int what) {
        if (reach < 0 || reach > 23 || what < 0 || what > 1) {
            return -1;
        }
        boolean[] out = new boolean[384];
        for (int place = 0; place < 384; place++) {
            out[place] = reached(place, reach, 255);
        }
        return countOrFirst(out, what);
    }

    int nearest(int x, int y) {
        if (x < 0 || x > 23 || y < 0 || y > 15) {
            return -1;
        }
        for (int d = 0; d < 24; d++) {
            for (int p = 0; p < 8; p++) {
                if (web(p) && distance(webs[p], new int[] {x, y}) == d) {
                    return p;
                }
            }
        }
        return -2;
    }

    int share(int p) {
        if (!web(p)) {
            return -1;
        }
        int places = 0;
        for (int x = 0; x < 24; x++) {
            for (int y = 0; y < 16; y++) {
                places += nearest(x, y) == p ? 1 : 0;
            }
        }
        return places;
    }

    // ---- logs

    int log(int n, int what) {
        boolean asked = what >= 0 && what < 8 || what >= 100 && what <= 104;
        if (n < 1 || n > 80 || !asked || tape.size() < n) {
            return -1;
        }
        String spokes;
        try {
            spokes = spokes(takeText(n));
        } catch (Fault fault) {
            return fault.answer;
        }
        if (what < 8) {
            return (int) spokes.chars().filter(c -> c == '0' + what).count();
        }
        if (what == 100) {
            return spokes.length();
        }
        if (what == 101) {
            int[] often = new int[8];
            spokes.chars().forEach(c -> often[c - '0']++);
            int most = Arrays.stream(often).max().getAsInt();
            int s = 0;
            while (often[s] != most) {
                s++;
            }
            return s;
        }
        if (what == 102) {
            for (int length = spokes.length(); true; length--) {
                for (char c = '0'; c < '8'; c++) {
                    if (spokes.contains(String.valueOf(c).repeat(length))) {
                        return length;
                    }
                }
            }
        }
        if (what == 103) {
            int[] turn = {0, 1, 2, 3, -4, -3, -2, -1};
            int sum = 0;
            for (int k = 1; k < spokes.length(); k++) {
                sum += turn[spokes.charAt(k) - spokes.charAt(k - 1) & 7];
            }
            return sum;
        }
        for (int by = 1; true; by++) {
            if (spokes.startsWith(spokes.substring(by))) {
                return by;
            }
        }
    }

    private static String spokes(String text) {
        StringBuilder all = new StringBuilder();
        Deque<int[]> open = new ArrayDeque<>();
        boolean canEnd = false;
        int i = 0;
        while (i < text.length()) {
            char c = text.charAt(i);
            if (c >= '0' && c <= '7') {
                if (all.length() == 64) {
                    throw new Fault(6, i);
                }
                all.append(c);
                canEnd = true;
                i++;
            } else if (c == '(') {
                if (open.size() == 2) {
                    throw new Fault(5, i);
                }
                open.push(new int[] {i, all.length()});
                canEnd = false;
                i++;
            } else if (c == ')' && canEnd && !open.isEmpty()) {
                int[] from = open.pop();
                i++;
                if (at(text, i) == '*') {
                    need("23456789", at(text, i + 1), i + 1);
                    String row = all.substring(from[1]);
                    all.setLength(from[1]);
                    all.append(row.repeat(text.charAt(i + 1) - '0'));
                    if (all.length() > 64) {
                        throw new Fault(6, from[0]);
                    }
                    i += 2;
                }
            } else {
                throw new Fault(1, i);
            }
        }
        if (!open.isEmpty() || !canEnd) {
            throw new Fault(1, i);
        }
        return all.toString();
    }

    int inCommon(int n, int m) {
        if (n < 1 || n > 30 || m < 1 || m > 30 || tape.size() < n + m) {
            return -1;
        }
        int[] both = take(n + m);
        int[][] most = new int[n + 1][m + 1];
        for (int i = n - 1; i >= 0; i--) {
            for (int j = m - 1; j >= 0; j--) {
                most[i][j] = Math.max(most[i + 1][j], most[i][j + 1]);
                if (both[i] == both[n + j]) {
                    most[i][j] = Math.max(most[i][j], 1 + most[i + 1][j + 1]);
                }
            }
        }
        return most[0][0];
    }

    // ---- sums

    int code(int n, int what) {
        if (n < 2 || n > 12 || what < 0 || what > 1 || tape.size() < n) {
            return -1;
        }
        List<int[]> kinds = new ArrayList<>();
        for (int one : take(n)) {
            kinds.add(new int[] {one, kinds.size(), 0});
        }
        if (kinds.stream().anyMatch(kind -> kind[0] == 0)) {
            return -3;
        }
        int signs = 0;
        for (int k = n; kinds.size() > 1; k++) {
            kinds.sort((a, b) -> a[0] != b[0] ? a[0] - b[0] : a[1] - b[1]);
            int[] a = kinds.remove(0);
            int[] b = kinds.remove(0);
            kinds.add(new int[] {a[0] + b[0], k, 1 + Math.max(a[2], b[2])});
            signs += a[0] + b[0];
        }
        return what == 0 ? signs : kinds.get(0)[2];
    }

    int crawls(int n, int ring, int spoke) {
        if (n < 1 || n > 8 || ring < 0 || ring >= n || spoke < 0 || spoke > 7 || tape.size() < 2 * n) {
            return -1;
        }
        int[] torn = take(2 * n);
        int[][] way = new int[n][8];
        for (int[] row : way) {
            Arrays.fill(row, 9999);
        }
        for (int round = 0; round < 80; round++) {
            for (int r = 0; r < n; r++) {
                for (int s = 0; s < 8; s++) {
                    if ((torn[2 * r] >> s & 1) == 0) {
                        int inside = r == 0 ? 0 : way[r - 1][s];
                        way[r][s] = Math.min(way[r][s], inside + 1);
                        if (r > 0) {
                            way[r - 1][s] = Math.min(way[r - 1][s], way[r][s] + 1);
                        }
                    }
                    if ((torn[2 * r + 1] >> s & 1) == 0) {
                        int t = s + 1 & 7;
                        way[r][s] = Math.min(way[r][s], way[r][t] + 1);
                        way[r][t] = Math.min(way[r][t], way[r][s] + 1);
                    }
                }
            }
        }
        return way[ring][spoke] >= 9999 ? -2 : way[ring][spoke];
    }

    /** By the matrix of threads without the middle: its determinant, without fractions. */
    long hangs(int n) {
        if (n < 3 || n > 30) {
            return -1;
        }
        java.math.BigInteger[][] m = new java.math.BigInteger[n][n];
        for (int i = 0; i < n; i++) {
            for (int j = 0; j < n; j++) {
                boolean next = (i + 1) % n == j || (j + 1) % n == i;
                m[i][j] = java.math.BigInteger.valueOf(i == j ? 3 : next ? -1 : 0);
            }
        }
        java.math.BigInteger before = java.math.BigInteger.ONE;
        for (int k = 0; k < n - 1; k++) {
            for (int i = k + 1; i < n; i++) {
                for (int j = k + 1; j < n; j++) {
                    m[i][j] = m[i][j].multiply(m[k][k]).subtract(m[i][k].multiply(m[k][j])).divide(before);
                }
            }
            before = m[k][k];
        }
        return m[n - 1][n - 1].longValueExact();
    }

    int smoothed(int n, int what) {
        if (n < 3 || n > 30 || what < 0 || what > 1 || tape.size() < n) {
            return -1;
        }
        int[] now = take(n);
        for (int rounds = 0; true; rounds++) {
            int[] next = now.clone();
            for (int k = 1; k < n - 1; k++) {
                int[] three = Arrays.copyOfRange(now, k - 1, k + 2);
                Arrays.sort(three);
                next[k] = three[1];
            }
            if (Arrays.equals(now, next)) {
                return what == 0 ? rounds : Arrays.stream(now).sum();
            }
            now = next;
        }
    }

    int spell(int n, int what) {
        if (n < 1 || n > 40 || what < 0 || what > 2 || tape.size() < n) {
            return -1000000;
        }
        int[] bytes = take(n);
        int[] best = null;
        for (int first = n - 1; first >= 0; first--) {
            for (int length = n - first; length > 0; length--) {
                int sum = Arrays.stream(bytes, first, first + length).sum() - 128 * length;
                if (best == null || sum >= best[0]) {
                    best = new int[] {sum, first, length};
                }
            }
        }
        return best[what];
    }

    int salutes(int n) {
        if (n < 1 || n > 12 || tape.size() < 2 * n) {
            return -1;
        }
        int[] b = take(2 * n);
        int[] clash = new int[n];
        for (int i = 0; i < n; i++) {
            if (b[2 * i + 1] < b[2 * i]) {
                return -3;
            }
            for (int j = 0; j < n; j++) {
                if (i != j && b[2 * i] <= b[2 * j + 1] && b[2 * j] <= b[2 * i + 1]) {
                    clash[i] |= 1 << j;
                }
            }
        }
        int most = 0;
        for (int bits = 0; bits < 1 << n; bits++) {
            boolean free = true;
            for (int i = 0; i < n; i++) {
                free &= (bits >> i & 1) == 0 || (clash[i] & bits) == 0;
            }
            most = free ? Math.max(most, Integer.bitCount(bits)) : most;
        }
        return most;
    }

    int rent(int n, int what) {
        if (n < 2 || n > 12 || what < 0 || what > 1 || tape.size() < n) {
            return -1;
        }
        int[] offers = take(n);
        int[] sorted = offers.clone();
        Arrays.sort(sorted);
        if (what == 1) {
            return sorted[n - 2];
        }
        int who = 0;
        while (offers[who] != sorted[n - 1]) {
            who++;
        }
        return who;
    }

    // ---- kept

    boolean seed(int x) {
        if (x < 0 || x > 65535) {
            return false;
        }
        drawn = x;
        return true;
    }

    int keep() {
        kept = copy();
        return hour;
    }

    boolean undo() {
        if (kept == null) {
            return false;
        }
        for (int k = 0; k < 8; k++) {
            if (kept.webs[k] != null) {
                tensions[k] = kept.tensions[k].clone();
            }
            if (kept.fleets[k] != null && fleets[k] != null) {
                fleets[k] = new int[] {kept.fleets[k][0], kept.fleets[k][1], fleets[k][2], kept.fleets[k][3]};
            }
        }
        hour = kept.hour;
        drawn = kept.drawn;
        return true;
    }

    int check(int n) {
        if (n < 0 || n > 8 || tape.size() < n) {
            return -2;
        }
        int[] bytes = take(n);
        for (int p = 0; p < n; p++) {
            if (bytes[p] != (web(p) ? slack(p) : 255)) {
                return p;
            }
        }
        return -1;
    }

    int count(int what) {
        int toldWebs = 0;
        int toldFleets = 0;
        int sum = 0;
        for (int k = 0; k < 8; k++) {
            toldWebs |= web(k) ? 1 << k : 0;
            toldFleets |= fleet(k) ? 1 << k : 0;
            sum += web(k) ? Arrays.stream(tensions[k]).sum() : 0;
        }
        int[] answers = {hour, toldWebs, toldFleets, rules.size(), tape.size(), drawn, sum};
        return what < 0 || what > 6 ? -1 : answers[what];
    }
}
