/** Promises 10 to 19: what is asked. */
final class BoundsOfAnswers {
    private BoundsOfAnswers() {
    }

    static void run() {
        ofDesign();
        cells();
        overs();
        oversOfItself();
        bests();
        priors();
        infringing();
        nearest();
        groups();
        prints();
        statuses();
    }

    private static void ofDesign() {
        Check.by("Promise 10", "Of a DESIGN: 0 DAY, 1 columns, 2 ROWS, 3 to 6 CELLS of SORT 0 to 3, 7 EDGE, 8 PARTS, "
                + "9 HOLES, 10 LOOKS (bits), 11 FREEDOM, 12 1 it is NEW.");
        DesignDesk desk = Check.desk("design 42 t##o/#.#o/###o;design 41 .;");
        int[] due = {42, 4, 3, 1, 7, 3, 1, 16, 1, 1, 0, 666, 1};
        for (int what = 0; what < due.length; what++) {
            Check.due("of(0, " + what + ")", desk.of(0, what), due[what]);
        }
        int[] least = {41, 1, 1, 1, 0, 0, 0, 0, 0, 0, 254, 1000, 1};
        for (int what = 0; what < least.length; what++) {
            Check.due("of(1, " + what + ")", desk.of(1, what), least[what]);
        }
        DesignDesk great = Check.desk(Texts.design(9999, Texts.grid('t', 10, 10)) + "design 0 #;");
        int[] most = {9999, 10, 10, 0, 0, 0, 100, 40, 1, 0, 254, 0, 1};
        for (int what = 0; what < most.length; what++) {
            Check.due("of the greatest " + what, great.of(0, what), most[what]);
        }
        Check.number("of(0, -1)", () -> desk.of(0, -1));
        Check.number("of(0, 13)", () -> desk.of(0, 13));
        Check.missing("of(2, 0)", () -> desk.of(2, 0));
        Check.missing("of(-1, 0)", () -> desk.of(-1, 0));
        Check.due("1 it is new, 0 it is not", Check.desk("design 2 #;design 1 #;").of(0, 12), 0);
    }

    private static void cells() {
        Check.by("Promise 11", "SORT of a CELL.");
        DesignDesk desk = Check.desk("design 1 .#/ot;design 2 t;");
        Check.due("first", desk.cell(0, 0, 0), 0);
        Check.due("column 1", desk.cell(0, 1, 0), 1);
        Check.due("row 1", desk.cell(0, 0, 1), 2);
        Check.due("last", desk.cell(0, 1, 1), 3);
        Check.due("of the other", desk.cell(1, 0, 0), 3);
        int[][] wrong = {{0, -1, 0}, {0, 2, 0}, {0, 0, -1}, {0, 0, 2}, {1, 1, 0}, {1, 0, 1}, {2, 0, 0}, {-1, 0, 0}};
        for (int[] w : wrong) {
            Check.missing("cell(" + w[0] + ", " + w[1] + ", " + w[2] + ")", () -> desk.cell(w[0], w[1], w[2]));
        }
    }

    private static void overs() {
        Check.by("Promise 12", "OVERLAY of A with B by a TURN and a SHIFT (-20 to 20 each way): 0 SAME, 1 UNLIKE.");
        DesignDesk desk = Check.desk(Texts.pair("##", "#"));
        Check.due("same", desk.over(0, 1, 0, 1, 0, 0), 1);
        Check.due("unlike", desk.over(0, 1, 0, 1, 0, 1), 1);
        int[] ends = {-20, 20};
        for (int end : ends) {
            Check.due("dx " + end, desk.over(0, 1, 7, end, 0, 1), 3);
            Check.due("dy " + end, desk.over(0, 1, 0, 0, end, 1), 3);
            Check.due("both " + end, desk.over(0, 1, 0, end, end, 0), 0);
            Check.due("both ways " + end, desk.over(0, 1, 7, end, -end, 1), 3);
        }
        int[] wrong = {-21, 21, 32, -32, Integer.MIN_VALUE, Integer.MAX_VALUE};
        for (int n : wrong) {
            Check.number("dx " + n, () -> desk.over(0, 1, 0, n, 0, 0));
            Check.number("dy " + n, () -> desk.over(0, 1, 0, 0, n, 0));
        }
        int[] turns = {-1, 8, Integer.MIN_VALUE, Integer.MAX_VALUE};
        for (int n : turns) {
            Check.number("turn " + n, () -> desk.over(0, 1, n, 0, 0, 0));
        }
        Check.number("what -1", () -> desk.over(0, 1, 0, 0, 0, -1));
        Check.number("what 2", () -> desk.over(0, 1, 0, 0, 0, 2));
    }

    private static void oversOfItself() {
        Check.by("Promise 12", "IllegalArgumentException: also A is B (so below).");
        DesignDesk desk = Check.desk("design 1 #;design 1 #;design 1 #;");
        for (int a = 0; a < 3; a++) {
            for (int b = 0; b < 3; b++) {
                int first = a;
                int second = b;
                String due = a == b ? "throws.IllegalArgumentException" : "1";
                String of = "(" + a + ", " + b + ")";
                Check.outcome("over" + of, () -> desk.over(first, second, 0, 0, 0, 0), due);
                Check.outcome("best" + of, () -> desk.best(first, second, 0), due);
                Check.outcome("infringes" + of, () -> desk.infringes(first, second), due);
            }
        }
        Check.due("refused", desk.status(1), 9);
        Check.missing("over(3, 3)", () -> desk.over(3, 3, 0, 0, 0, 0));
        Check.missing("best(3, 3)", () -> desk.best(3, 3, 0));
        Check.missing("infringes(3, 3)", () -> desk.infringes(3, 3));
    }

    private static void bests() {
        Check.by("Promise 13", "BEST OVERLAY of A with B: 0, 1 ALIKE (above, below), 2 its TURN, 3 dx, 4 dy.");
        DesignDesk desk = Check.desk(Texts.pair("..../.##./..#.", "#/./."));
        int[] due = {1, 3, 0, 1, 1};
        int[] back = {1, 3, 0, -2, -2};
        for (int what = 0; what < 5; what++) {
            Check.due("best(0, 1, " + what + ")", desk.best(0, 1, what), due[what]);
            Check.due("best(1, 0, " + what + ")", desk.best(1, 0, what), back[what]);
        }
        Check.number("best(0, 1, -1)", () -> desk.best(0, 1, -1));
        Check.number("best(0, 1, 5)", () -> desk.best(0, 1, 5));
        Check.missing("best(2, 1, 0)", () -> desk.best(2, 1, 0));
        Check.missing("best(0, 2, 0)", () -> desk.best(0, 2, 0));
        DesignDesk turned = Check.desk(Texts.pair("###/..#", "##/#./#."));
        int[] mirrored = {1, 1, 1, 0, 0};
        for (int what = 0; what < 5; what++) {
            Check.due("turned, " + what, turned.best(0, 1, what), mirrored[what]);
        }
    }

    private static void priors() {
        Check.by("Promise 14", "PRIOR: 0, 1 the fraction, 2 the DESIGN by which it is (of several the least number; "
                + "NONE without any that is of a lesser DAY).");
        DesignDesk desk = Check.desk("design 5 ####;design 5 ####;design 4 #;design 3 ###;design 1 ###;design 6 ####;");
        prior(desk, 0, 3, 4, 3);
        prior(desk, 5, 1, 1, 0);
        prior(desk, 4, 0, 1, -1);
        prior(desk, 3, 1, 1, 4);
        desk.day(3, 5);
        prior(desk, 0, 3, 4, 4);
        desk.day(4, 5);
        prior(desk, 0, 1, 4, 2);
        desk.day(2, 5);
        prior(desk, 0, 0, 1, -1);
        DesignDesk none = Check.desk("design 5 #;design 4 .;design 3 .;");
        prior(none, 0, 0, 1, 1);
        prior(none, 1, 0, 1, 2);
        prior(none, 2, 0, 1, -1);
        Check.number("prior(0, -1)", () -> desk.prior(0, -1));
        Check.number("prior(0, 3)", () -> desk.prior(0, 3));
        Check.missing("prior(-1, 0)", () -> desk.prior(-1, 0));
        Check.missing("prior(6, 0)", () -> desk.prior(6, 0));
    }

    private static void prior(DesignDesk desk, int a, int above, int below, int by) {
        int[] due = {above, below, by};
        for (int what = 0; what < 3; what++) {
            Check.due("prior(" + a + ", " + what + ")", desk.prior(a, what), due[what]);
        }
    }

    private static void infringing() {
        Check.by("Promise 15", "1 B INFRINGES A.");
        DesignDesk desk = Check.desk("design 1 #;design 2 #;rule age=1;");
        Check.due("B is the later one", desk.infringes(0, 1), 1);
        Check.due("A is", desk.infringes(1, 0), 0);
        Check.missing("infringes(0, 2)", () -> desk.infringes(0, 2));
        Check.missing("infringes(-1, 1)", () -> desk.infringes(-1, 1));
        Check.number("infringes(1, 1)", () -> desk.infringes(1, 1));
        Check.due("without a rule", Check.desk("design 1 #t;design 1 ##;").infringes(0, 1), 1);
    }

    private static void nearest() {
        Check.by("Promise 16", "NEAREST to A; NONE: there are no others.");
        DesignDesk desk = Check.desk("design 1 #;");
        Check.due("one alone", desk.nearest(0), -1);
        Check.missing("nearest(1)", () -> desk.nearest(1));
        Check.missing("nearest(-1)", () -> desk.nearest(-1));
        Check.missing("nearest of none", () -> new DesignDesk().nearest(0));
        Check.tell(desk, "design 1 #;design 1 .;");
        Check.due("two, not alike", desk.nearest(0) * 10 + desk.nearest(1), 10);
        desk.drop(1);
        Check.due("one again", desk.nearest(0), -1);
        desk.undo();
        Check.due("two again", desk.nearest(0), 1);
    }

    private static void groups() {
        Check.by("Promise 17", "How many GROUPS there are.");
        DesignDesk desk = new DesignDesk();
        Check.due("none", desk.groups(), 0);
        Check.tell(desk, Texts.designs(6) + "rule age=3;");
        Check.due("three pairs", desk.groups(), 3);
        desk.drop(0);
        Check.due("two pairs and one", desk.groups(), 3);
        desk.day(0, 9);
        Check.due("one pair and three", desk.groups(), 4);
        for (int left = 4; left > 0; left--) {
            desk.drop(0);
        }
        Check.due("one", desk.groups(), 1);
        desk.drop(0);
        Check.due("none again", desk.groups(), 0);
    }

    private static void prints() {
        Check.by("Promise 18", "From 0 on, of DESIGN by DESIGN 31 times what there is, and DAY; of CELL by CELL "
                + "(ROW by ROW) 31 times, and its SORT.");
        Check.due("none", new DesignDesk().print(), 0);
        Check.due("of 0s alone", Check.desk("design 0 .;").print(), 0);
        Check.due("row by row", Check.desk("design 0 .#/ot;").print(), (31 + 2) * 31 + 3);
        Check.due("day first", Check.desk("design 7 #;").print(), 7 * 31 + 1);
        Check.due("design by design", Check.desk("design 7 #;design 8 t;").print(), ((7 * 31 + 1) * 31 + 8) * 31 + 3);
        Check.due("the rule is not in it", Check.desk("design 7 #;rule 1=1;").print(), 7 * 31 + 1);
        // wraps round, as longs do
        long sum = 0;
        StringBuilder six = new StringBuilder();
        for (int d = 0; d < 6; d++) {
            six.append("design").append(9999 - d).append(Texts.grid('t', 10, 10)).append(';');
            sum = sum * 31 + 9999 - d;
            for (int i = 0; i < 100; i++) {
                sum = sum * 31 + 3;
            }
        }
        DesignDesk great = Check.good(six.toString(), 6);
        Check.due("six of the greatest", great.print(), sum);
        great.paint(5, 9, 9, 0);
        Check.due("the last cell", great.print(), sum - 3);
        great.undo();
        Check.due("taken back", great.print(), sum);
    }

    private static void statuses() {
        Check.by("Promise 19", "How many calls were refused: 0 NoSuchElementException, 1 IllegalArgumentException; "
                + "NONE for others.");
        DesignDesk desk = Check.desk(Texts.pair("#", "#"));
        int[] others = {-1, 2, 3, Integer.MIN_VALUE, Integer.MAX_VALUE};
        for (int what : others) {
            Check.due("status(" + what + ")", desk.status(what), -1);
        }
        Check.due("no refusal at first", desk.status(0) + desk.status(1), 0);
        for (int i = 1; i <= 100; i++) {
            Check.missing("a refusal", () -> desk.cell(0, 1, 0));
            Check.due("status(0)", desk.status(0), i);
            if (i % 2 == 0) {
                Check.number("another one", () -> desk.told(4));
            }
            Check.due("status(1)", desk.status(1), i / 2);
        }
        desk.undo();
        desk.text(0);
        Check.tell(desk, "x");
        desk.undo();
        desk.undo();
        desk.undo();
        Check.due("behind acts, faults and undo", desk.status(0) * 1000 + desk.status(1), 100050);
    }
}
