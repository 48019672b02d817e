/** Terms 1: what a DESIGN is; and how long an object is used. */
final class BoundsOfDesigns {
    private static final String PART = "Terms 1";

    private BoundsOfDesigns() {
    }

    static void run() {
        calls();
        days();
        sizes();
        places();
        sorts();
        darkOnes();
        numbers();
    }

    private static void calls() {
        Check.by("What it is", "An object is used for at most 512 calls after it has been made; "
                + "what later calls answer is free.");
        DesignDesk desk = Check.desk(Texts.pair("#.", "##"));
        // told, three feeds and text were five calls
        for (int call = 6; call <= 510; call++) {
            Check.due("paint as call " + call, desk.paint(0, 1, 0, call % 4), call == 6 ? 0 : (call - 1) % 4);
        }
        Check.due("cell as call 511", desk.cell(0, 1, 0), 510 % 4);
        Check.due("undo as call 512", desk.undo(), 7);
        DesignDesk asked = Check.desk(Texts.pair("#.", "##"));
        for (int call = 6; call <= 512; call++) {
            Check.due("groups as call " + call, asked.groups(), 2);
        }
    }

    private static void days() {
        Check.by(PART, "A DESIGN has a DAY (0 to 9,999)");
        Check.due("least", Check.good("design 0 #;", 1).of(0, 0), 0);
        Check.due("most", Check.good("design 9999 #;", 1).of(0, 0), 9999);
        Check.bad("design 10000 #;", 2, 7);
        Check.bad("design -1 #;", 1, 7);
    }

    private static void sizes() {
        Check.by(PART, "and a GRID of ROWS of CELLS (1 to 10 each way);");
        for (int columns = 1; columns <= 10; columns++) {
            for (int rows = 1; rows <= 10; rows++) {
                DesignDesk desk = Check.good(Texts.design(5, Texts.grid('#', columns, rows)), 1);
                Check.due("columns of " + columns + " by " + rows, desk.of(0, 1), columns);
                Check.due("rows of " + columns + " by " + rows, desk.of(0, 2), rows);
                Check.due("cells of " + columns + " by " + rows, desk.of(0, 4), columns * rows);
            }
        }
        Check.bad("design 5 ;", 1, 9);
        Check.bad(Texts.design(5, Texts.grid('#', 11, 1)), 1, 19);
        Check.bad(Texts.design(5, Texts.grid('#', 11, 10)), 1, 19);
        Check.bad(Texts.design(5, Texts.grid('#', 1, 11)), 1, 28);
        Check.bad(Texts.design(5, Texts.grid('#', 10, 11)), 1, 118);
    }

    private static void places() {
        Check.by(PART, "column x, row y from 0 on, row 0 the first one told.");
        DesignDesk desk = Check.desk("design 5 #.t/o#./tto/...;");
        String rows = "#.t/o#./tto/...";
        for (int y = 0; y < 4; y++) {
            for (int x = 0; x < 3; x++) {
                Check.due("cell(0, " + x + ", " + y + ")", desk.cell(0, x, y),
                        ".#ot".indexOf(rows.charAt(4 * y + x)));
            }
        }
        Check.missing("column -1", () -> desk.cell(0, -1, 0));
        Check.missing("column 3", () -> desk.cell(0, 3, 0));
        Check.missing("row -1", () -> desk.cell(0, 0, -1));
        Check.missing("row 4", () -> desk.cell(0, 0, 4));
        DesignDesk great = Check.desk(Texts.design(5, Texts.spot(9, 9, 't', '.', 10, 10)));
        Check.due("the last cell", great.cell(0, 9, 9), 3);
        Check.missing("column 10", () -> great.cell(0, 10, 9));
        Check.missing("row 10", () -> great.cell(0, 9, 10));
    }

    private static void sorts() {
        Check.by(PART, "SORT of a CELL: 0 EMPTY, 1 SOLID, 2 DOTTED, 3 FORCED.");
        DesignDesk desk = Check.desk("design 5 .#ot;");
        for (int sort = 0; sort < 4; sort++) {
            Check.due("cells of sort " + sort, desk.of(0, 3 + sort), 1);
        }
        for (int sort = 0; sort < 4; sort++) {
            Check.due("told sort " + sort, desk.cell(0, sort, 0), sort);
            Check.due("painted over " + sort, desk.paint(0, sort, 0, 3 - sort), sort);
            Check.due("painted sort " + (3 - sort), desk.cell(0, sort, 0), 3 - sort);
        }
        Check.number("sort -1", () -> desk.paint(0, 0, 0, -1));
        Check.number("sort 4", () -> desk.paint(0, 0, 0, 4));
    }

    private static void darkOnes() {
        Check.by(PART, "SOLID and FORCED ones are DARK.");
        int[] edges = {0, 4, 0, 4};
        DesignDesk desk = Check.desk("design 5 .;design 5 .;rule dark=1;");
        for (int sort = 0; sort < 4; sort++) {
            desk.paint(0, 0, 0, sort);
            Check.due("edge of sort " + sort, desk.of(0, 7), edges[sort]);
            Check.due("parts of sort " + sort, desk.of(0, 8), edges[sort] / 4);
            Check.due("dark of sort " + sort, desk.infringes(1, 0), edges[sort] / 4);
        }
    }

    private static void numbers() {
        Check.by(PART, "DESIGNS (6 at most) are numbered from 0 on as they are told.");
        for (int number = 0; number <= 6; number++) {
            DesignDesk desk = Check.good(Texts.designs(number), number);
            for (int design = 0; design < number; design++) {
                Check.due("day of " + design, desk.of(design, 0), design);
            }
            int beyond = number;
            Check.missing("design " + beyond, () -> desk.of(beyond, 0));
            Check.missing("design -1", () -> desk.of(-1, 0));
        }
        Check.bad(Texts.designs(7), 3, 66);
    }
}
