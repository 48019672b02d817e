/** Promises 5 to 9: paint, day, drop, undo, told. */
final class BoundsOfChanges {
    private BoundsOfChanges() {
    }

    static void run() {
        paintsCells();
        paintsNoSuchCell();
        paintsNoSuchSort();
        setsDays();
        drops();
        undoes();
        undoesNone();
        tells();
    }

    private static void paintsCells() {
        Check.by("Promise 5", "A CELL becomes of a SORT: of which it was.");
        DesignDesk desk = Check.desk("design 1 .;design 2 ..;");
        for (int from = 0; from < 4; from++) {
            for (int to = 0; to < 4; to++) {
                desk.paint(0, 0, 0, from);
                Check.due("from " + from + " to " + to, desk.paint(0, 0, 0, to), from);
                Check.due("cell", desk.cell(0, 0, 0), to);
                Check.due("cells of sort " + to, desk.of(0, 3 + to), 1);
            }
        }
        Check.due("the other design stays", desk.of(1, 3), 2);
        DesignDesk great = Check.desk(Texts.design(1, Texts.grid('#', 10, 10)));
        for (int i = 0; i < 4; i++) {
            int x = 9 * (i % 2);
            int y = 9 * (i / 2);
            Check.due("corner " + i, great.paint(0, x, y, i == 1 ? 0 : i), 1);
            Check.due("corner " + i + " then", great.cell(0, x, y), i == 1 ? 0 : i);
        }
        Check.due("no other cell", great.of(0, 4), 96);
    }

    private static void paintsNoSuchCell() {
        Check.by("Promise 5", "NoSuchElementException: no such DESIGN, CELL (so below).");
        DesignDesk desk = Check.desk("design 1 ###/###;design 2 #;");
        Check.due("the first cell", desk.paint(0, 0, 0, 1), 1);
        Check.due("the last cell", desk.paint(0, 2, 1, 1), 1);
        int[][] wrong = {{-1, 0, 0}, {2, 0, 0}, {0, -1, 0}, {0, 3, 0}, {0, 0, -1}, {0, 0, 2}, {1, 1, 0}, {1, 0, 1},
            {0, Integer.MIN_VALUE, 0}, {0, Integer.MAX_VALUE, 0}, {0, 0, Integer.MIN_VALUE},
            {0, 0, Integer.MAX_VALUE}, {Integer.MIN_VALUE, 0, 0}, {Integer.MAX_VALUE, 0, 0}, {0, 32, 0}, {0, 0, 32}};
        for (int i = 0; i < wrong.length; i++) {
            int[] w = wrong[i];
            String at = "(" + w[0] + ", " + w[1] + ", " + w[2] + ")";
            Check.missing("paint" + at, () -> desk.paint(w[0], w[1], w[2], 0));
            Check.missing("cell" + at, () -> desk.cell(w[0], w[1], w[2]));
            Check.due("refused", desk.status(0), 2 * i + 2);
        }
        int[] designs = {-1, 2, 6, Integer.MIN_VALUE, Integer.MAX_VALUE};
        for (int d : designs) {
            Check.missing("day", () -> desk.day(d, 1));
            Check.missing("drop", () -> desk.drop(d));
            Check.missing("of", () -> desk.of(d, 0));
            Check.missing("over, A", () -> desk.over(d, 0, 0, 0, 0, 0));
            Check.missing("over, B", () -> desk.over(0, d, 0, 0, 0, 0));
            Check.missing("best, A", () -> desk.best(d, 0, 0));
            Check.missing("best, B", () -> desk.best(0, d, 0));
            Check.missing("prior", () -> desk.prior(d, 0));
            Check.missing("infringes, A", () -> desk.infringes(d, 0));
            Check.missing("infringes, B", () -> desk.infringes(0, d));
            Check.missing("nearest", () -> desk.nearest(d));
        }
        Check.due("acts", desk.told(3), 3);
        Check.due("cells", desk.of(0, 4) + desk.of(1, 4), 7);
    }

    private static void paintsNoSuchSort() {
        Check.by("Promise 5", "IllegalArgumentException: another SORT (so below: a number that is none such).");
        DesignDesk desk = Check.desk("design 1 #;design 2 #;");
        for (int sort = 0; sort < 4; sort++) {
            desk.paint(0, 0, 0, sort);
            Check.due("sort " + sort, desk.cell(0, 0, 0), sort);
        }
        int[] wrong = {-1, 4, 5, 256, Integer.MIN_VALUE, Integer.MAX_VALUE};
        for (int sort : wrong) {
            Check.number("sort " + sort, () -> desk.paint(0, 0, 0, sort));
            Check.due("the cell stays", desk.cell(0, 0, 0), 3);
        }
        Check.due("acts", desk.told(3), 5);
        beside("day", n -> desk.day(0, n), 9999);
        beside("told", n -> desk.told(n), 3);
        beside("of", n -> desk.of(0, n), 12);
        beside("over, turn", n -> desk.over(0, 1, n, 0, 0, 0), 7);
        beside("over, what", n -> desk.over(0, 1, 0, 0, 0, n), 1);
        beside("best", n -> desk.best(0, 1, n), 4);
        beside("prior", n -> desk.prior(0, n), 2);
    }

    interface Call {
        int with(int number);
    }

    /** A call takes 0 and a greatest number, and neither what is below nor what is above. */
    private static void beside(String name, Call call, int most) {
        Check.same(name + " takes 0", Check.outcomeOf(() -> 0 * call.with(0)), "0");
        Check.same(name + " takes " + most, Check.outcomeOf(() -> 0 * call.with(most)), "0");
        int[] wrong = {-1, most + 1, Integer.MIN_VALUE, Integer.MAX_VALUE};
        for (int n : wrong) {
            Check.number(name + " with " + n, () -> call.with(n));
        }
    }

    private static void setsDays() {
        Check.by("Promise 6", "DAY of a DESIGN becomes n: what it was.");
        DesignDesk desk = Check.desk("design 5 #;design 6 #;");
        int[] days = {0, 9999, 1, 9998, 9998, 5};
        int was = 5;
        for (int day : days) {
            Check.due("day(0, " + day + ")", desk.day(0, day), was);
            Check.due("of(0, 0)", desk.of(0, 0), day);
            was = day;
        }
        Check.due("the other one", desk.of(1, 0), 6);
        Check.number("day(0, 10000)", () -> desk.day(0, 10000));
        Check.number("day(0, -1)", () -> desk.day(0, -1));
        Check.missing("day(2, 0)", () -> desk.day(2, 0));
        Check.missing("day(-1, 0)", () -> desk.day(-1, 0));
        Check.due("it stays then", desk.of(0, 0), 5);
    }

    private static void drops() {
        Check.by("Promise 7", "A DESIGN is gone (those behind it are numbered anew): how many there are.");
        for (int gone = 0; gone < 6; gone++) {
            DesignDesk desk = Check.desk(Texts.designs(6) + "rule 1=1;");
            Check.due("drop(" + gone + ")", desk.drop(gone), 5);
            for (int d = 0; d < 5; d++) {
                Check.due("day of " + d + " behind drop(" + gone + ")", desk.of(d, 0), d < gone ? d : d + 1);
            }
            Check.missing("design 5", () -> desk.of(5, 0));
            Check.missing("drop(5)", () -> desk.drop(5));
            Check.due("the rule stays", desk.told(1), 1);
        }
        DesignDesk all = Check.desk(Texts.designs(6));
        for (int left = 5; left >= 0; left--) {
            Check.due("drop(0), left", all.drop(0), left);
        }
        Check.missing("drop(0) of none", () -> all.drop(0));
        Check.due("groups of none", all.groups(), 0);
        Check.due("print of none", all.print(), 0);
        for (int i = 0; i < 3; i++) {
            Check.due("six told again", Check.tell(all, Texts.designs(6)), 6);
            for (int d = 0; d < 6; d++) {
                Check.due("day of " + d, all.of(d, 0), d);
            }
        }
        // what was asked of one number is not kept for another design
        DesignDesk asked = Check.desk("design 1 ##;design 2 ..;design 3 ##;");
        Check.due("best ahead", asked.best(0, 1, 0) * 10 + asked.best(0, 2, 0), 1);
        asked.drop(1);
        Check.due("best behind", asked.best(0, 1, 0), 1);
        Check.due("nearest behind", asked.nearest(0), 1);
    }

    private static void undoes() {
        Check.by("Promise 8", "How many ACTS still can be taken back behind it;");
        DesignDesk desk = Check.desk("design 1 #;");
        for (int i = 0; i < 7; i++) {
            desk.day(0, i);
        }
        for (int left = 7; left >= 0; left--) {
            Check.due("undo", desk.undo(), left);
            Check.due("told(3)", desk.told(3), left);
        }
        DesignDesk nine = Check.desk("design 1 #;");
        for (int i = 0; i < 8; i++) {
            nine.paint(0, 0, 0, i % 4);
        }
        Check.due("the first of nine is too far back", nine.undo(), 7);
    }

    private static void undoesNone() {
        Check.by("Promise 8", "NONE: none could.");
        DesignDesk desk = new DesignDesk();
        Check.due("a new object", desk.undo(), -1);
        Check.tell(desk, "x");
        Check.due("behind a fault", desk.undo(), -1);
        Check.tell(desk, "design 1 #;");
        Check.due("the only one", desk.undo(), 0);
        Check.due("no more", desk.undo(), -1);
        Check.due("no more again", desk.undo(), -1);
        Check.due("it is no refusal", desk.status(0) + desk.status(1), 0);
        Check.due("and changes nothing", desk.told(0) + desk.told(3), 0);
    }

    private static void tells() {
        Check.by("Promise 9", "0 DESIGNS, 1 1 there is a rule, 2 bytes of the TAPE, 3 ACTS that can be taken back.");
        DesignDesk desk = new DesignDesk();
        tell(desk, 0, 0, 0, 0);
        Check.tell(desk, Texts.designs(6) + "rule 1=2;");
        tell(desk, 6, 1, 0, 1);
        Check.feed(desk, " ".repeat(800));
        tell(desk, 6, 1, 800, 1);
        desk.drop(5);
        tell(desk, 5, 1, 800, 2);
        desk.undo();
        desk.undo();
        tell(desk, 0, 0, 800, 0);
        desk.text(0);
        tell(desk, 0, 0, 0, 1);
        Check.tell(desk, "rule 1=2;");
        tell(desk, 0, 1, 0, 2);
        desk.text(0);
        tell(desk, 0, 0, 0, 3);
        desk.undo();
        tell(desk, 0, 1, 0, 2);
        for (int i = 0; i < 10; i++) {
            desk.text(0);
        }
        tell(desk, 0, 0, 0, 8);
        Check.number("told(-1)", () -> desk.told(-1));
        Check.number("told(4)", () -> desk.told(4));
    }

    private static void tell(DesignDesk desk, int... due) {
        for (int what = 0; what < 4; what++) {
            Check.due("told(" + what + ")", desk.told(what), due[what]);
        }
    }
}
