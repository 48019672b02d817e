/** Terms 2: TURNS, OVERLAYS, the BEST one. */
final class BoundsOfOverlays {
    private static final String PART = "Terms 2";

    private BoundsOfOverlays() {
    }

    static void run() {
        turns();
        shifts();
        outside();
        aside();
        sameAndUnlike();
        fractions();
        allShifts();
        ofSeveral();
    }

    /** Where a turn brings a cell of a grid, by the document's own words for a mirror and a quarter. */
    private static int[] turned(int turn, int x, int y, int columns, int rows) {
        int[] at = {turn >= 4 ? columns - 1 - x : x, y, columns, rows};
        for (int quarter = 0; quarter < turn % 4; quarter++) {
            at = new int[] {at[3] - 1 - at[1], at[0], at[3], at[2]};
        }
        return at;
    }

    private static void turns() {
        Check.by(PART, "TURNS 0 to 7 of a GRID: 0 as it is; 1 a quarter to the right (column x, row y comes to column "
                + "(ROWS less 1 less y), row x); 2 twice that, 3 three times; 4 to 7 likewise, but mirrored first "
                + "(column x comes to column (columns less 1 less x)).");
        int[][] sizes = {{1, 1}, {1, 10}, {10, 1}, {3, 2}, {10, 10}, {9, 10}};
        for (int[] size : sizes) {
            int[] columns = {0, size[0] - 1, size[0] / 2};
            int[] rows = {0, size[1] - 1, size[1] / 3};
            for (int i = 0; i < 9; i++) {
                turnsOfSpot(columns[i % 3], rows[i / 3], size[0], size[1]);
            }
        }
        DesignDesk desk = Check.desk(Texts.pair("#", "#"));
        Check.number("turn -1", () -> desk.over(0, 1, -1, 0, 0, 0));
        Check.number("turn 8", () -> desk.over(0, 1, 8, 0, 0, 0));
    }

    private static void turnsOfSpot(int x, int y, int columns, int rows) {
        String spot = Texts.spot(x, y, '#', '.', columns, rows);
        DesignDesk desk = Check.desk(Texts.pair("#", spot));
        for (int turn = 0; turn < 8; turn++) {
            int[] to = turned(turn, x, y, columns, rows);
            Check.due("turn " + turn + " of " + spot, desk.over(0, 1, turn, -to[0], -to[1], 0), 1);
            Check.due("turn " + turn + " of " + spot + ", a column beside",
                    desk.over(0, 1, turn, 1 - to[0], -to[1], 0), 0);
        }
    }

    private static void shifts() {
        Check.by(PART, "OVERLAY of a DESIGN A with another one B by a TURN and a SHIFT dx, dy: B, turned, lies so that "
                + "its column 0, row 0 is at column dx, row dy of A;");
        for (int y = 0; y < 10; y += 3) {
            for (int x = 0; x < 10; x += 3) {
                DesignDesk desk = Check.desk(Texts.pair(Texts.spot(x, y, '#', '.', 10, 10), "#./.."));
                for (int turn = 0; turn < 8; turn++) {
                    int[] to = turned(turn, 0, 0, 2, 2);
                    String call = "turn " + turn + " to " + x + ", " + y;
                    Check.due(call, desk.over(0, 1, turn, x - to[0], y - to[1], 0), 1);
                    Check.due(call + ", unlike", desk.over(0, 1, turn, x - to[0], y - to[1], 1), 0);
                    Check.due(call + ", a row beside", desk.over(0, 1, turn, x - to[0], y - to[1] + 1, 0), 0);
                }
            }
        }
        DesignDesk great = Check.desk(Texts.pair(Texts.grid('#', 10, 10), Texts.grid('#', 10, 10)));
        for (int d = -20; d <= 20; d++) {
            int shared = Math.max(0, 10 - Math.abs(d));
            Check.due("same by dx " + d, great.over(0, 1, 0, d, 0, 0), 10 * shared);
            Check.due("same by dy " + d, great.over(0, 1, 0, 0, d, 0), 10 * shared);
            Check.due("same by both " + d, great.over(0, 1, 5, d, -d, 0), shared * shared);
            Check.due("unlike by both " + d, great.over(0, 1, 5, d, -d, 1), 200 - 2 * shared * shared);
        }
    }

    private static void outside() {
        Check.by(PART, "outside of GRIDS all is EMPTY.");
        DesignDesk desk = Check.desk(Texts.pair("##", "##"));
        int[] same = {0, 0, 1, 2, 1, 0, 0};
        for (int dx = -3; dx <= 3; dx++) {
            Check.due("same by " + dx, desk.over(0, 1, 0, dx, 0, 0), same[dx + 3]);
            Check.due("unlike by " + dx, desk.over(0, 1, 0, dx, 0, 1), 4 - 2 * same[dx + 3]);
        }
        int[] far = {-20, -1, 1, 20};
        for (int dy : far) {
            Check.due("same by dy " + dy, desk.over(0, 1, 0, 0, dy, 0), 0);
            Check.due("unlike by dy " + dy, desk.over(0, 1, 0, 0, dy, 1), 4);
        }
    }

    private static void aside() {
        Check.by(PART, "Places that are DOTTED or FORCED in A do not count, nor those that are DOTTED in B.");
        String signs = ".#ot";
        String[] due = {"00 01 00 01", "01 10 00 10", "00 00 00 00", "00 00 00 00"};
        for (int a = 0; a < 4; a++) {
            for (int b = 0; b < 4; b++) {
                DesignDesk desk = Check.desk(Texts.pair(signs.substring(a, a + 1), signs.substring(b, b + 1)));
                String call = signs.charAt(a) + " with " + signs.charAt(b);
                Check.due(call + ", same", desk.over(0, 1, 0, 0, 0, 0), due[a].charAt(3 * b) - '0');
                Check.due(call + ", unlike", desk.over(0, 1, 0, 0, 0, 1), due[a].charAt(3 * b + 1) - '0');
                // side by side each lies over what is empty
                int alone = (a == 1 ? 1 : 0) + (b == 1 || b == 3 ? 1 : 0);
                Check.due(call + ", same aside", desk.over(0, 1, 0, 1, 0, 0), 0);
                Check.due(call + ", unlike aside", desk.over(0, 1, 0, 1, 0, 1), alone);
            }
        }
    }

    private static void sameAndUnlike() {
        Check.by(PART, "SAME: places that count, DARK in both; UNLIKE: that count, DARK in one.");
        DesignDesk none = Check.desk(Texts.pair(Texts.grid('.', 10, 10), Texts.grid('.', 10, 10)));
        Check.due("none same", none.over(0, 1, 0, 0, 0, 0), 0);
        Check.due("none unlike", none.over(0, 1, 0, 0, 0, 1), 0);
        DesignDesk all = Check.desk(Texts.pair(Texts.grid('#', 10, 10), Texts.grid('t', 10, 10)));
        Check.due("all same", all.over(0, 1, 0, 0, 0, 0), 100);
        Check.due("all same, none unlike", all.over(0, 1, 0, 0, 0, 1), 0);
        Check.due("all apart, none same", all.over(0, 1, 0, 10, 0, 0), 0);
        Check.due("all apart", all.over(0, 1, 0, 10, 0, 1), 200);
        Check.due("all forced in A, same", all.over(1, 0, 0, 0, 0, 0), 0);
        Check.due("all forced in A, unlike", all.over(1, 0, 0, 0, 0, 1), 0);
        Check.due("all forced in A, apart", all.over(1, 0, 0, 10, 0, 1), 100);
        DesignDesk halves = Check.desk(Texts.pair(Texts.board(10, 10), Texts.board(10, 10)));
        Check.due("boards, same", halves.over(0, 1, 0, 0, 0, 0), 50);
        Check.due("boards, same mirrored", halves.over(0, 1, 4, 0, 0, 0), 0);
        Check.due("boards, unlike mirrored", halves.over(0, 1, 4, 0, 0, 1), 100);
    }

    private static void alike(String a, String b, int above, int below) {
        DesignDesk desk = Check.desk(Texts.pair(a, b));
        Check.due("above, " + a + " with " + b, desk.best(0, 1, 0), above);
        Check.due("below, " + a + " with " + b, desk.best(0, 1, 1), below);
    }

    private static void fractions() {
        Check.by(PART, "ALIKE: SAME by (SAME and UNLIKE together), as a fraction in lowest terms "
                + "(0 by 1, if SAME is 0).");
        for (int cells = 1; cells <= 100; cells += cells < 10 ? 1 : 9) {
            int common = java.math.BigInteger.valueOf(cells).gcd(java.math.BigInteger.valueOf(100)).intValue();
            alike(Texts.grid('#', 10, 10), Texts.filled(cells, '#', '.', 10, 10), cells / common, 100 / common);
        }
        alike("#######", "######", 6, 7);
        alike("####", "##", 1, 2);
        alike("#", "#", 1, 1);
        alike("#", ".", 0, 1);
        alike(".", "#", 0, 1);
        alike(".", ".", 0, 1);
        alike("o", "#", 0, 1);
        alike("t", "t", 0, 1);
        alike(Texts.grid('.', 10, 10), Texts.grid('#', 10, 10), 0, 1);
    }

    private static void best(String a, String b, int... want) {
        DesignDesk desk = Check.desk(Texts.pair(a, b));
        String[] names = {"above", "below", "turn", "dx", "dy"};
        for (int what = 0; what < 5; what++) {
            Check.due(names[what] + " of " + a + " with " + b, desk.best(0, 1, what), want[what]);
        }
    }

    private static void allShifts() {
        Check.by(PART, "BEST OVERLAY of A with B: over all TURNS and SHIFTS by which GRIDS share a place at least "
                + "the greatest ALIKE;");
        String first = Texts.spot(0, 0, '#', '.', 10, 10);
        String last = Texts.spot(9, 9, '#', '.', 10, 10);
        best(first, last, 1, 1, 0, -9, -9);
        best(last, first, 1, 1, 0, 9, 9);
        best(Texts.spot(0, 9, '#', '.', 10, 10), Texts.spot(9, 0, '#', '.', 10, 10), 1, 1, 0, -9, 9);
        best(Texts.spot(9, 0, '#', '.', 10, 10), Texts.spot(0, 9, '#', '.', 10, 10), 1, 1, 0, 9, -9);
        best("#", "#", 1, 1, 0, 0, 0);
        // of two single cells there is but one shift, of others the first one shares a corner
        best(".", ".", 0, 1, 0, 0, 0);
        best(".", Texts.grid('.', 10, 10), 0, 1, 0, -9, -9);
        best(Texts.grid('.', 10, 10), ".", 0, 1, 0, 0, 0);
        best(Texts.grid('.', 10, 10), Texts.grid('.', 10, 10), 0, 1, 0, -9, -9);
        best(Texts.grid('.', 3, 2), Texts.grid('.', 2, 5), 0, 1, 0, -1, -4);
        // a turned grid has other shifts than one that is not
        best("#/#/#/#/#/#/#/#/#/#", "##########", 1, 1, 1, 0, 0);
        best(".........#", "......../#.......", 1, 1, 0, 9, -1);
        String own = "##../#.../#.#.";
        for (int turn = 0; turn < 8; turn++) {
            String other = turnedBack(own, turn, 4, 3);
            best(own, other, 1, 1, turn, 0, 0);
        }
    }

    /** The grid that a turn brings to these rows. */
    private static String turnedBack(String rows, int turn, int columns, int height) {
        boolean upright = turn % 2 == 0;
        int toColumns = upright ? columns : height;
        int toRows = upright ? height : columns;
        StringBuilder text = new StringBuilder(Texts.grid('.', toColumns, toRows));
        for (int y = 0; y < toRows; y++) {
            for (int x = 0; x < toColumns; x++) {
                int[] to = turned(turn, x, y, toColumns, toRows);
                text.setCharAt(y * (toColumns + 1) + x, rows.charAt(to[1] * (columns + 1) + to[0]));
            }
        }
        return text.toString();
    }

    private static void ofSeveral() {
        Check.by(PART, "of several the least TURN, then dy, then dx.");
        // any turn will do
        best("#", "##/##", 1, 4, 0, -1, -1);
        best("##/##", "#", 1, 4, 0, 0, 0);
        best(Texts.grid('#', 10, 10), "#", 1, 100, 0, 0, 0);
        best("#", Texts.grid('#', 10, 10), 1, 100, 0, -9, -9);
        // a lesser dy goes ahead of a lesser dx
        best("..#/#..", "#", 1, 2, 0, 2, 0);
        best("#", "..#/#..", 1, 2, 0, 0, -1);
        best("#./.#", ".#/#.", 1, 1, 1, 0, 0);
        // .. and a lesser turn ahead of a lesser dy
        best(".../.../#..", "#..", 1, 1, 0, 0, 2);
        best("#../.../...", "#/./.", 1, 1, 0, 0, 0);
        best("./#/.", "#/./.", 1, 1, 0, 0, 1);
        // of one row the least dx
        best("#.#.#", "#", 1, 3, 0, 0, 0);
        best("#", "#.#.#", 1, 3, 0, -4, 0);
        // only mirrored ones are whole: the least of those
        best("#./#./##", ".#/.#/##", 1, 1, 4, 0, 0);
        best("##./.##", ".##/##.", 1, 1, 4, 0, 0);
    }
}
