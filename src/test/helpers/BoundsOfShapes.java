/** Terms 3: EDGE, PARTS, HOLES, LOOKS, NEAREST, GROUPS. */
final class BoundsOfShapes {
    private static final String PART = "Terms 3";
    private static final String FULL = Texts.grid('#', 10, 10);

    private BoundsOfShapes() {
    }

    static void run() {
        edges();
        parts();
        holes();
        looks();
        nearest();
        groups();
    }

    private static void of(int what, String rows, int due) {
        Check.due("of(0, " + what + ") of " + rows, Check.desk(Texts.design(1, rows)).of(0, what), due);
    }

    private static void edges() {
        Check.by(PART, "EDGE of a DESIGN: sides of DARK CELLS on the other side of which there is none that is DARK "
                + "(outside, too).");
        of(7, ".", 0);
        of(7, "o", 0);
        of(7, "#", 4);
        of(7, "t", 4);
        of(7, "#t", 6);
        of(7, "#o#", 8);
        of(7, Texts.grid('.', 10, 10), 0);
        of(7, FULL, 40);
        of(7, Texts.board(10, 10), 200);
        of(7, "##########", 22);
        of(7, "#/#/#/#/#/#/#/#/#/#", 22);
        of(7, "###/#.#/###", 16);
        of(7, "#./.#", 8);
        for (int i = 0; i < 4; i++) {
            // a corner of the grid, alone dark and alone not
            of(7, Texts.spot(9 * (i % 2), 9 * (i / 2), '#', '.', 10, 10), 4);
            of(7, Texts.spot(9 * (i % 2), 9 * (i / 2), '.', '#', 10, 10), 40);
        }
    }

    private static void parts() {
        Check.by(PART, "PARTS: sets of DARK CELLS that hang together by sides.");
        of(8, ".", 0);
        of(8, "o", 0);
        of(8, "#", 1);
        of(8, "#t", 1);
        of(8, "#.t", 2);
        of(8, "#/t", 1);
        of(8, "#/./t", 2);
        of(8, "#./.#", 2);
        of(8, ".#/#.", 2);
        of(8, "#./##", 1);
        of(8, Texts.grid('.', 10, 10), 0);
        of(8, FULL, 1);
        of(8, Texts.board(10, 10), 50);
        // one long way through all the grid
        String way = "##########/.........#/##########/#........./##########/.........#/##########/#........./"
                + "##########/.........#";
        of(8, way, 1);
        of(8, way.replace('#', 'x').replace('.', '#').replace('x', '.'), 5);
        of(8, "#####/#...#/#.#.#/#...#/#####", 2);
    }

    private static void holes() {
        Check.by(PART, "HOLES: sets of CELLS that are not DARK, that hang together by sides and corners, none of them "
                + "at the rim of the GRID.");
        of(9, ".", 0);
        of(9, "#", 0);
        of(9, "##/##", 0);
        of(9, "#.#", 0);
        of(9, "###/#.#/###", 1);
        of(9, "ttt/tot/ttt", 1);
        of(9, FULL, 0);
        for (int i = 0; i < 8; i++) {
            // of the hole's eight neighbours one is not dark: at the rim, by a side or a corner
            int at = i < 4 ? i : i + 1;
            StringBuilder rows = new StringBuilder("###/#.#/###");
            rows.setCharAt(at / 3 * 4 + at % 3, i % 2 == 0 ? '.' : 'o');
            of(9, rows.toString(), 0);
        }
        for (int i = 0; i < 100; i++) {
            int x = i % 10;
            int y = i / 10;
            boolean rim = x == 0 || y == 0 || x == 9 || y == 9;
            of(9, Texts.spot(x, y, '.', '#', 10, 10), rim ? 0 : 1);
        }
        of(9, "#####/#.#.#/#####", 2);
        of(9, "####/#.##/##.#/####", 1);
        of(9, "####/##.#/#.##/####", 1);
        // joined up and to the left alone, and up and to the right alone
        of(9, "#######/####.##/####.##/##.#.##/###.###/#######", 1);
        of(9, "#######/##.####/##.####/##.#.##/###.###/#######", 1);
        String row = "#.#.#.#.##/";
        String full = "##########/";
        of(9, full + row + full + row + full + row + full + row + full + "##########", 16);
        // a ring within a hole: what is inside of it is one more
        of(9, "#######/#.....#/#.###.#/#.#.#.#/#.###.#/#.....#/#######", 2);
        String wide = "#........#/";
        of(9, full + wide + wide + wide + wide + wide + wide + wide + wide + "##########", 1);
        of(9, full + wide + wide + wide + wide + wide + wide + wide + wide + "####.#####", 0);
    }

    private static void looks() {
        Check.by(PART, "LOOKS: TURNS 1 to 7 by which its GRID is as it was (SORTS, size).");
        of(10, ".", 254);
        of(10, "#", 254);
        of(10, FULL, 254);
        of(10, Texts.board(10, 10), 4 + 32 + 128);
        of(10, Texts.board(9, 9), 254);
        // the size: a quarter of a turn makes another one
        of(10, "..", 4 + 16 + 64);
        of(10, Texts.grid('#', 10, 9), 4 + 16 + 64);
        of(10, Texts.grid('o', 9, 10), 4 + 16 + 64);
        // the sorts: both are dark, both do not count
        of(10, "#t", 64);
        of(10, "t/#", 16);
        of(10, "o.", 64);
        of(10, "#t/t#", 4 + 32 + 128);
        // each turn alone, as far as one can be
        of(10, ".#../...#/#.../..#.", 2 + 4 + 8);
        of(10, "##./.##", 4);
        of(10, "#.#/##.", 0);
        of(10, "##/..", 16);
        of(10, "#./#.", 64);
        of(10, ".#/##", 128);
        of(10, "#./##", 32);
        of(10, Texts.spot(0, 0, '#', '.', 10, 10), 128);
        of(10, Texts.spot(9, 0, '#', '.', 10, 10), 32);
        of(10, Texts.spot(1, 0, '#', '.', 10, 10), 0);
    }

    private static void nearest() {
        Check.by(PART, "NEAREST to A: of the other DESIGNS B the one with the greatest ALIKE of the BEST OVERLAY of A "
                + "with B; of several the least number.");
        DesignDesk desk = Check.desk("design 1 ####;design 1 ##;design 1 ###;design 1 ./#/#/#;design 1 #;design 1 .;");
        int[] due = {2, 2, 3, 2, 1, 0};
        for (int a = 0; a < 6; a++) {
            Check.due("nearest(" + a + ")", desk.nearest(a), due[a]);
        }
        DesignDesk same = Check.desk(Texts.designs(6));
        for (int a = 0; a < 6; a++) {
            Check.due("all alike, nearest(" + a + ")", same.nearest(a), a == 0 ? 1 : 0);
        }
        DesignDesk none = Check.desk(Texts.designs(6).replace('#', '.'));
        for (int a = 0; a < 6; a++) {
            Check.due("none alike, nearest(" + a + ")", none.nearest(a), a == 0 ? 1 : 0);
        }
        DesignDesk last = Check.desk("design 1 ##;design 1 .;design 1 .;design 1 .;design 1 .;design 1 #;");
        Check.due("the last one", last.nearest(0), 5);
        // A with B, not B with A
        DesignDesk one = Check.desk("design 1 #t;design 1 ##;design 1 #;");
        Check.due("A's forced cell does not count", one.nearest(0), 1);
        Check.due("B's does", one.nearest(2), 0);
        DesignDesk two = Check.desk("design 1 #tt/...;design 1 ##./.##;design 1 ##;");
        Check.due("half and whole", two.nearest(0), 2);
    }

    private static void groups() {
        Check.by(PART, "GROUPS: DESIGNS that are joined by INFRINGING (either way), one by the other.");
        Check.due("no designs", new DesignDesk().groups(), 0);
        Check.due("a rule alone", Check.desk("rule 1=1;").groups(), 0);
        for (int number = 1; number <= 6; number++) {
            String designs = Texts.designs(number);
            Check.due("all joined of " + number, Check.desk(designs + "rule 1=1;").groups(), 1);
            Check.due("none joined of " + number, Check.desk(designs + "rule 1=2;").groups(), number);
            Check.due("each with the next of " + number, Check.desk(designs + "rule age=1;").groups(), 1);
            Check.due("each with the one ahead of " + number, Check.desk(designs + "rule age=0-1;").groups(), 1);
        }
        String six = Texts.designs(6);
        int[] due = {6, 1, 2, 3, 4, 5, 6};
        for (int age = 1; age <= 6; age++) {
            Check.due("days apart: " + age, Check.desk(six + "rule age=" + age + ";").groups(), due[age]);
        }
        Check.due("one way alone", Check.desk("design 1 #;design 2 #;rule age>0;").groups(), 1);
        Check.due("the other way alone", Check.desk("design 1 #;design 2 #;rule age<0;").groups(), 1);
        Check.due("without a rule", Check.desk("design 1 #;design 1 #;design 1 ##;design 1 .;").groups(), 3);
    }
}
