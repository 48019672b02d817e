import java.util.ArrayDeque;
import java.util.ArrayList;
import java.util.Deque;
import java.util.List;
import java.util.NoSuchElementException;

/**
 * The document once more, written as plainly as can be and in other ways than the class: cell by
 * cell over a wide board, a parser that calls itself, nothing kept. ModelTest runs both side by side.
 */
final class Model {
    static final class Sheet {
        int day;
        int[][] grid;

        Sheet copy() {
            Sheet other = new Sheet();
            other.day = day;
            other.grid = new int[grid.length][];
            for (int y = 0; y < grid.length; y++) {
                other.grid[y] = grid[y].clone();
            }
            return other;
        }

        int columns() {
            return grid[0].length;
        }

        int rows() {
            return grid.length;
        }

        boolean dark(int x, int y) {
            int sort = sort(x, y);
            return sort == 1 || sort == 3;
        }

        int sort(int x, int y) {
            return x < 0 || y < 0 || x >= columns() || y >= rows() ? 0 : grid[y][x];
        }
    }

    interface Formula {
        long value(int a, int b);
    }

    static final class State {
        List<Sheet> sheets = new ArrayList<>();
        Formula rule;

        State copy() {
            State other = new State();
            for (Sheet sheet : sheets) {
                other.sheets.add(sheet.copy());
            }
            other.rule = rule;
            return other;
        }
    }

    static final class Fault extends RuntimeException {
        private static final long serialVersionUID = 1;
        final int kind;
        final int place;

        Fault(int kind, int place) {
            this.kind = kind;
            this.place = place;
        }
    }

    private State state = new State();
    private final Deque<State> past = new ArrayDeque<>();
    private StringBuilder tape = new StringBuilder();
    private int faultPlace = -1;
    private final int[] refused = new int[2];

    private Sheet need(int design) {
        if (design < 0 || design >= state.sheets.size()) {
            refused[0]++;
            throw new NoSuchElementException();
        }
        return state.sheets.get(design);
    }

    private void needCell(Sheet sheet, int x, int y) {
        if (x < 0 || y < 0 || x >= sheet.columns() || y >= sheet.rows()) {
            refused[0]++;
            throw new NoSuchElementException();
        }
    }

    private void needTrue(boolean good) {
        if (!good) {
            refused[1]++;
            throw new IllegalArgumentException();
        }
    }

    private void keep() {
        past.addLast(state.copy());
        if (past.size() > 8) {
            past.removeFirst();
        }
    }

    int feed(int a, int b, int c, int d, int e) {
        if (tape.length() + 20 > 800) {
            return -1;
        }
        for (int number : new int[] {a, b, c, d, e}) {
            tape.append((char) (number >>> 24));
            tape.append((char) (number >>> 16 & 255));
            tape.append((char) (number >>> 8 & 255));
            tape.append((char) (number & 255));
        }
        return tape.length();
    }

    int text(int n) {
        needTrue(n >= 0 && n <= tape.length());
        String text = tape.substring(0, n);
        tape = new StringBuilder();
        State told;
        try {
            told = new Parser(text).parse();
        } catch (Fault fault) {
            faultPlace = fault.place;
            return fault.kind - 10;
        }
        faultPlace = -1;
        keep();
        state = told;
        return state.sheets.size();
    }

    int fault() {
        return faultPlace;
    }

    int paint(int design, int x, int y, int sort) {
        Sheet sheet = need(design);
        needCell(sheet, x, y);
        needTrue(sort >= 0 && sort <= 3);
        keep();
        int was = sheet.grid[y][x];
        sheet.grid[y][x] = sort;
        return was;
    }

    int day(int design, int n) {
        Sheet sheet = need(design);
        needTrue(n >= 0 && n <= 9999);
        keep();
        int was = sheet.day;
        sheet.day = n;
        return was;
    }

    int drop(int design) {
        need(design);
        keep();
        state.sheets.remove(design);
        return state.sheets.size();
    }

    int undo() {
        if (past.isEmpty()) {
            return -1;
        }
        state = past.removeLast();
        return past.size();
    }

    int told(int what) {
        needTrue(what >= 0 && what <= 3);
        return new int[] {state.sheets.size(), state.rule == null ? 0 : 1, tape.length(), past.size()}[what];
    }

    int of(int design, int what) {
        Sheet s = need(design);
        needTrue(what >= 0 && what <= 12);
        if (what == 0) {
            return s.day;
        }
        if (what == 1) {
            return s.columns();
        }
        if (what == 2) {
            return s.rows();
        }
        if (what <= 6) {
            return sorts(s, what - 3);
        }
        if (what == 7) {
            return edge(s);
        }
        if (what <= 9) {
            return sets(s, what == 8);
        }
        if (what == 10) {
            return looks(s);
        }
        if (what == 11) {
            return freedom(s);
        }
        int[] prior = priorOf(design);
        return prior[0] < prior[1] ? 1 : 0;
    }

    private static int sorts(Sheet s, int sort) {
        int n = 0;
        for (int[] row : s.grid) {
            for (int one : row) {
                n += one == sort ? 1 : 0;
            }
        }
        return n;
    }

    private static int edge(Sheet s) {
        int n = 0;
        // every side between two neighbours, and those at the rim, counted once
        for (int y = -1; y <= s.rows(); y++) {
            for (int x = -1; x <= s.columns(); x++) {
                n += s.dark(x, y) != s.dark(x + 1, y) ? 1 : 0;
                n += s.dark(x, y) != s.dark(x, y + 1) ? 1 : 0;
            }
        }
        return n;
    }

    private static int sets(Sheet s, boolean dark) {
        int[][] mark = new int[s.rows()][s.columns()];
        int n = 0;
        for (int y = 0; y < s.rows(); y++) {
            for (int x = 0; x < s.columns(); x++) {
                if (mark[y][x] == 0 && s.dark(x, y) == dark) {
                    boolean rim = flood(s, mark, x, y, dark);
                    n += dark || !rim ? 1 : 0;
                }
            }
        }
        return n;
    }

    private static boolean flood(Sheet s, int[][] mark, int x, int y, boolean dark) {
        if (x < 0 || y < 0 || x >= s.columns() || y >= s.rows() || mark[y][x] != 0 || s.dark(x, y) != dark) {
            return false;
        }
        mark[y][x] = 1;
        boolean rim = x == 0 || y == 0 || x == s.columns() - 1 || y == s.rows() - 1;
        rim |= flood(s, mark, x + 1, y, dark);
        rim |= flood(s, mark, x - 1, y, dark);
        rim |= flood(s, mark, x, y + 1, dark);
        rim |= flood(s, mark, x, y - 1, dark);
        if (!dark) {
            rim |= flood(s, mark, x + 1, y + 1, dark);
            rim |= flood(s, mark, x - 1, y + 1, dark);
            rim |= flood(s, mark, x + 1, y - 1, dark);
            rim |= flood(s, mark, x - 1, y - 1, dark);
        }
        return rim;
    }

    private static int looks(Sheet s) {
        int bits = 0;
        for (int turn = 1; turn < 8; turn++) {
            if (java.util.Arrays.deepEquals(turned(s, turn).grid, s.grid)) {
                bits |= 1 << turn;
            }
        }
        return bits;
    }

    private static int freedom(Sheet s) {
        return 1000 * (sorts(s, 0) + sorts(s, 1)) / (s.rows() * s.columns());
    }

    private static Sheet turned(Sheet s, int turn) {
        Sheet now = s.copy();
        if (turn >= 4) {
            for (int y = 0; y < s.rows(); y++) {
                for (int x = 0; x < s.columns(); x++) {
                    now.grid[y][s.columns() - 1 - x] = s.grid[y][x];
                }
            }
        }
        for (int i = 0; i < turn % 4; i++) {
            Sheet next = new Sheet();
            next.day = s.day;
            next.grid = new int[now.columns()][now.rows()];
            for (int y = 0; y < now.rows(); y++) {
                for (int x = 0; x < now.columns(); x++) {
                    next.grid[x][now.rows() - 1 - y] = now.grid[y][x];
                }
            }
            now = next;
        }
        return now;
    }

    int cell(int design, int x, int y) {
        Sheet sheet = need(design);
        needCell(sheet, x, y);
        return sheet.grid[y][x];
    }

    private static int[] lay(Sheet a, Sheet b, int dx, int dy) {
        int same = 0;
        int unlike = 0;
        for (int y = -20; y < 30; y++) {
            for (int x = -20; x < 30; x++) {
                int first = a.sort(x, y);
                int second = b.sort(x - dx, y - dy);
                if (first >= 2 || second == 2) {
                    continue;
                }
                boolean firstDark = first == 1;
                boolean secondDark = second == 1 || second == 3;
                same += firstDark && secondDark ? 1 : 0;
                unlike += firstDark != secondDark ? 1 : 0;
            }
        }
        return new int[] {same, unlike};
    }

    int over(int a, int b, int turn, int dx, int dy, int what) {
        Sheet first = need(a);
        Sheet second = need(b);
        needTrue(a != b && turn >= 0 && turn <= 7 && Math.abs((long) dx) <= 20 && Math.abs((long) dy) <= 20
                && (what == 0 || what == 1));
        return lay(first, turned(second, turn), dx, dy)[what];
    }

    /** above, below, turn, dx, dy */
    private int[] bestOf(int a, int b) {
        Sheet first = state.sheets.get(a);
        int[] best = null;
        for (int turn = 0; turn < 8; turn++) {
            Sheet second = turned(state.sheets.get(b), turn);
            for (int dy = -second.rows() + 1; dy <= first.rows() - 1; dy++) {
                for (int dx = -second.columns() + 1; dx <= first.columns() - 1; dx++) {
                    int[] laid = lay(first, second, dx, dy);
                    int above = laid[0];
                    int below = above == 0 ? 1 : laid[0] + laid[1];
                    for (int p = 2; p <= below; p++) {
                        while (above % p == 0 && below % p == 0 && above > 0) {
                            above /= p;
                            below /= p;
                        }
                    }
                    if (best == null || above * best[1] > best[0] * below) {
                        best = new int[] {above, below, turn, dx, dy};
                    }
                }
            }
        }
        return best;
    }

    int best(int a, int b, int what) {
        need(a);
        need(b);
        needTrue(a != b && what >= 0 && what <= 4);
        return bestOf(a, b)[what];
    }

    private int[] priorOf(int a) {
        int[] found = {0, 1, -1};
        for (int b = state.sheets.size() - 1; b >= 0; b--) {
            if (state.sheets.get(b).day < state.sheets.get(a).day) {
                int[] best = bestOf(a, b);
                if (best[0] * found[1] >= found[0] * best[1]) {
                    found = new int[] {best[0], best[1], b};
                }
            }
        }
        return found;
    }

    int prior(int a, int what) {
        need(a);
        needTrue(what >= 0 && what <= 2);
        return priorOf(a)[what];
    }

    private boolean infringed(int a, int b) {
        if (state.rule == null) {
            int[] best = bestOf(a, b);
            return best[0] * 1000 / best[1] > 700;
        }
        return state.rule.value(a, b) != 0;
    }

    int infringes(int a, int b) {
        need(a);
        need(b);
        needTrue(a != b);
        return infringed(a, b) ? 1 : 0;
    }

    int nearest(int a) {
        need(a);
        int found = -1;
        int[] most = null;
        for (int b = 0; b < state.sheets.size(); b++) {
            if (b != a) {
                int[] best = bestOf(a, b);
                if (most == null || best[0] * most[1] > most[0] * best[1]) {
                    most = best;
                    found = b;
                }
            }
        }
        return found;
    }

    int groups() {
        int n = state.sheets.size();
        boolean[][] joined = new boolean[n][n];
        for (int a = 0; a < n; a++) {
            for (int b = 0; b < n; b++) {
                joined[a][b] = a == b || joined[a][b] || infringed(a, b);
                joined[b][a] |= joined[a][b];
            }
        }
        for (int k = 0; k < n; k++) {
            for (int a = 0; a < n; a++) {
                for (int b = 0; b < n; b++) {
                    joined[a][b] |= joined[a][k] && joined[k][b];
                }
            }
        }
        int firsts = 0;
        for (int a = 0; a < n; a++) {
            boolean first = true;
            for (int b = 0; b < a; b++) {
                first &= !joined[a][b];
            }
            firsts += first ? 1 : 0;
        }
        return firsts;
    }

    long print() {
        long sum = 0;
        for (Sheet sheet : state.sheets) {
            sum = sum * 31 + sheet.day;
            for (int[] row : sheet.grid) {
                for (int sort : row) {
                    sum = sum * 31 + sort;
                }
            }
        }
        return sum;
    }

    int status(int what) {
        return what == 0 || what == 1 ? refused[what] : -1;
    }

    /** Reads by the grammar's own rules, each a method. */
    private final class Parser {
        private final String text;
        private int at = 0;
        private int depth = 0;

        Parser(String text) {
            this.text = text;
        }

        State parse() {
            State told = new State();
            while (true) {
                String token = peek();
                if (token.isEmpty()) {
                    return told;
                } else if (token.equals("design")) {
                    if (told.sheets.size() == 6) {
                        throw new Fault(3, at);
                    }
                    at += 6;
                    told.sheets.add(design());
                } else if (token.equals("rule") && told.rule == null) {
                    at += 4;
                    told.rule = or();
                    expect(";");
                } else {
                    throw new Fault(1, at);
                }
            }
        }

        /** The token ahead, blanks left out: a word, a number, a sign or "" at the end. */
        private String peek() {
            blanks();
            int end = at;
            while (end < text.length() && Character.toString(text.charAt(end)).matches("[a-z]")) {
                end++;
            }
            if (end == at) {
                while (end < text.length() && Character.toString(text.charAt(end)).matches("[0-9]")) {
                    end++;
                }
            }
            if (end == at && end < text.length()) {
                end++;
            }
            return text.substring(at, end);
        }

        private void blanks() {
            while (at < text.length() && text.charAt(at) == 32) {
                at++;
            }
        }

        private void expect(String token) {
            if (!peek().equals(token)) {
                throw new Fault(1, at);
            }
            at += token.length();
        }

        private int number() {
            String token = peek();
            if (!token.matches("[0-9]+")) {
                throw new Fault(1, at);
            }
            if (new java.math.BigInteger(token).compareTo(java.math.BigInteger.valueOf(9999)) > 0) {
                throw new Fault(2, at);
            }
            at += token.length();
            return Integer.parseInt(token.length() > 9 ? token.substring(token.length() - 9) : token);
        }

        private Sheet design() {
            Sheet sheet = new Sheet();
            sheet.day = number();
            List<List<Integer>> rows = new ArrayList<>();
            List<Integer> row = new ArrayList<>();
            while (true) {
                blanks();
                char sign = at < text.length() ? text.charAt(at) : 0;
                int sort = at < text.length() ? ".#ot".indexOf(sign) : -1;
                int width = rows.isEmpty() ? row.size() : rows.get(0).size();
                if (sort >= 0 && row.size() < (rows.isEmpty() ? 10 : width)) {
                    row.add(sort);
                } else if (sign == ';' && !row.isEmpty() && row.size() == width) {
                    rows.add(row);
                    at++;
                    break;
                } else if (sign == '/' && !row.isEmpty() && row.size() == width && rows.size() < 9) {
                    rows.add(row);
                    row = new ArrayList<>();
                } else {
                    throw new Fault(1, at);
                }
                at++;
            }
            sheet.grid = new int[rows.size()][rows.get(0).size()];
            for (int y = 0; y < rows.size(); y++) {
                for (int x = 0; x < sheet.columns(); x++) {
                    sheet.grid[y][x] = rows.get(y).get(x);
                }
            }
            return sheet;
        }

        private Formula or() {
            Formula left = and();
            while (peek().equals("or")) {
                at += 2;
                Formula first = left;
                Formula second = and();
                left = (a, b) -> first.value(a, b) != 0 || second.value(a, b) != 0 ? 1 : 0;
            }
            return left;
        }

        private Formula and() {
            Formula left = not();
            while (peek().equals("and")) {
                at += 3;
                Formula first = left;
                Formula second = not();
                left = (a, b) -> first.value(a, b) != 0 && second.value(a, b) != 0 ? 1 : 0;
            }
            return left;
        }

        private Formula not() {
            if (peek().equals("not")) {
                deeper();
                at += 3;
                Formula inner = not();
                depth--;
                return (a, b) -> inner.value(a, b) != 0 ? 0 : 1;
            }
            Formula left = sum();
            String sign = peek();
            if (!sign.matches("[<=>]")) {
                throw new Fault(1, at);
            }
            at++;
            Formula right = sum();
            return (a, b) -> {
                int order = Long.compare(left.value(a, b), right.value(a, b));
                return order == "<=>".indexOf(sign) - 1 ? 1 : 0;
            };
        }

        private void deeper() {
            if (depth == 4) {
                throw new Fault(4, at);
            }
            depth++;
        }

        private Formula sum() {
            Formula left = product();
            while (peek().matches("[+-]")) {
                boolean plus = peek().equals("+");
                at++;
                Formula first = left;
                Formula second = product();
                left = (a, b) -> held(first.value(a, b) + (plus ? 1 : -1) * second.value(a, b));
            }
            return left;
        }

        private Formula product() {
            Formula left = unit();
            while (peek().equals("*")) {
                at++;
                Formula first = left;
                Formula second = unit();
                left = (a, b) -> held(first.value(a, b) * second.value(a, b));
            }
            return left;
        }

        private long held(long number) {
            return number > 1000000 ? 1000000 : number < -1000000 ? -1000000 : number;
        }

        private Formula unit() {
            String token = peek();
            if (token.matches("[0-9]+")) {
                int n = number();
                return (a, b) -> n;
            }
            if (token.equals("(")) {
                deeper();
                at++;
                Formula inner = sum();
                expect(")");
                depth--;
                return inner;
            }
            Formula fact = fact(token);
            if (fact == null) {
                throw new Fault(1, at);
            }
            at += token.length();
            return fact;
        }

        private Formula fact(String word) {
            switch (word) {
                case "alike":
                    return (a, b) -> bestOf(a, b)[0] * 1000 / bestOf(a, b)[1];
                case "freedom":
                    return (a, b) -> freedom(state.sheets.get(a));
                case "prior":
                    return (a, b) -> priorOf(a)[0] * 1000 / priorOf(a)[1];
                case "dark":
                    return (a, b) -> sorts(state.sheets.get(b), 1) + sorts(state.sheets.get(b), 3);
                case "age":
                    return (a, b) -> state.sheets.get(b).day - state.sheets.get(a).day;
                default:
                    return null;
            }
        }
    }
}
