/** Promises 10, 11 and 18: of, cell, print. */
public final class ShapeTest {
    private static final String ROW = "##########/";
    private static final String TEN = ROW + ROW + ROW + ROW + ROW + ROW + ROW + ROW + ROW + "##########";

    public static void main(String[] args) {
        counts();
        edges();
        parts();
        holes();
        looks();
        freedom();
        news();
        cells();
        printing();
        Check.end();
    }

    private static int of(String rows, int what) {
        return Check.desk("design 1 " + rows + ";").of(0, what);
    }

    private static void counts() {
        DesignDesk desk = Check.desk("design 12 ..#o/tto#/ot.t;");
        int[] want = {12, 4, 3, 3, 2, 3, 4};
        for (int what = 0; what < want.length; what++) {
            Check.due("of(0, " + what + ")", desk.of(0, what), want[what]);
        }
        Check.number("of(0, 13)", () -> desk.of(0, 13));
        Check.number("of(0, -1)", () -> desk.of(0, -1));
        Check.missing("of(1, 0)", () -> desk.of(1, 0));
        Check.missing("of(-1, 13)", () -> desk.of(-1, 13));
    }

    private static void edges() {
        Check.due("one", of("#", 7), 4);
        Check.due("none", of(".o", 7), 0);
        Check.due("forced is dark, dotted is not", of("t#o#", 7), 10);
        Check.due("square", of("##/##", 7), 8);
        Check.due("ring", of("###/#.#/###", 7), 16);
        Check.due("corner to corner", of("#./.#", 7), 8);
        Check.due("all", of("##########/##########", 7), 24);
    }

    private static void parts() {
        Check.due("none", of("..", 8), 0);
        Check.due("corners do not join", of("#./.#", 8), 2);
        Check.due("sides join", of("#./##", 8), 1);
        Check.due("forced joins solid", of("#t#", 8), 1);
        Check.due("dotted parts", of("#o#", 8), 2);
        Check.due("a way round", of("#####/#...#/#.#.#/#..../#####", 8), 2);
        Check.due("all", of(TEN, 8), 1);
        Check.due("board", of("#.#.#.#.#./.#.#.#.#.#/#.#.#.#.#.", 8), 15);
    }

    private static void holes() {
        Check.due("ring", of("###/#.#/###", 9), 1);
        Check.due("ring of forced ones round a dotted one", of("ttt/tot/ttt", 9), 1);
        Check.due("open at a corner", of(".##/#.#/###", 9), 0);
        Check.due("diamond round one", of(".#./#.#/.#.", 9), 0);
        Check.due("corners join holes", of("####/#.##/##.#/####", 9), 1);
        Check.due("two", of("#####/#.#.#/#####", 9), 2);
        Check.due("at the rim", of("#.#/###", 9), 0);
        Check.due("no dark ones", of("...", 9), 0);
        Check.due("a long one", of("#####/#...#/#.#.#/#...#/#####", 9), 1);
        Check.due("a wide one", of(TEN.replace("##########/##########/", "##########/#........#/"), 9), 4);
        Check.due("wide ones joined", of((ROW + TEN.replace(ROW, "#........#/")).substring(0, 98)
                + "/##########", 9), 1);
        Check.due("one beside the rim", of(".####/##.##/#####", 9), 1);
        Check.due("at the last row", of("###/###/#.#", 9), 0);
        Check.due("at the last column", of("###/##./###", 9), 0);
        Check.due("joined up and to the left",
                of("#######/####.##/####.##/##.#.##/###.###/#######", 9), 1);
        DesignDesk again = Check.desk("design 1 #####/#.#.#/#####;");
        Check.due("asked", again.of(0, 8) * 10 + again.of(0, 9), 12);
        Check.due("asked again", again.of(0, 8) * 10 + again.of(0, 9), 12);
        Check.due("out through a gap", of("#####/#...#/#.#.#/#..../#####", 9), 0);
    }

    private static void looks() {
        Check.due("one cell", of("#", 10), 254);
        Check.due("line", of("#.#", 10), 4 + 16 + 64);
        Check.due("line that is not", of("##.", 10), 64);
        Check.due("standing line", of("#/#/.", 10), 16);
        Check.due("half a turn", of("#./.#", 10), 4 + 32 + 128);
        Check.due("corner", of("##/#.", 10), 128);
        Check.due("other corner", of("##/.#", 10), 32);
        Check.due("wheel", of(".#../...#/#.../..#.", 10), 2 + 4 + 8);
        Check.due("slope of two", of("##./.##", 10), 4);
        Check.due("sorts count", of("#t", 10), 64);
        Check.due("sorts count, dotted", of("o./.o", 10), 4 + 32 + 128);
        Check.due("sorts count, forced", of("#./.t", 10), 128);
        Check.due("none", of("#o/t.", 10), 0);
        Check.due("mirror", of("#o#/t.t", 10), 16);
    }

    private static void freedom() {
        Check.due("free", of("#.", 11), 1000);
        Check.due("one cell", of("#", 11), 1000);
        Check.due("bound", of("ot", 11), 0);
        Check.due("cut", of("#.o", 11), 666);
        Check.due("third", of("#to", 11), 333);
    }

    private static void news() {
        DesignDesk desk = Check.desk("design 5 ##/#.;design 6 ##/.#;design 5 #/.;design 4 ###;");
        Check.due("none before", desk.of(3, 12), 1);
        Check.due("one before, unlike", desk.of(0, 12), 1);
        Check.due("one before, alike by a turn", desk.of(1, 12), 0);
        desk.day(0, 6);
        Check.due("none of a lesser day alike", desk.of(1, 12), 1);
    }

    private static void cells() {
        DesignDesk desk = Check.desk("design 1 #ot/...;");
        Check.due("cell(0, 2, 0)", desk.cell(0, 2, 0), 3);
        Check.due("cell(0, 1, 0)", desk.cell(0, 1, 0), 2);
        Check.due("cell(0, 2, 1)", desk.cell(0, 2, 1), 0);
        Check.missing("cell(0, 3, 0)", () -> desk.cell(0, 3, 0));
        Check.missing("cell(0, 0, 2)", () -> desk.cell(0, 0, 2));
        Check.missing("cell(0, -1, 0)", () -> desk.cell(0, -1, 0));
        Check.missing("cell(0, 0, -1)", () -> desk.cell(0, 0, -1));
        Check.missing("cell(1, 0, 0)", () -> desk.cell(1, 0, 0));
        Check.missing("cell(-1, 0, 0)", () -> desk.cell(-1, 0, 0));
        Check.missing("cell(most)", () -> desk.cell(0, Integer.MAX_VALUE, Integer.MIN_VALUE));
    }

    private static void printing() {
        Check.due("one", Check.desk("design 5 o t/.#;").print(), 4680071L);
        Check.due("two", Check.desk("design 3 #;design 4 o;").print(), ((3 * 31 + 1) * 31 + 4) * 31 + 2);
        long sum = 9999;
        for (int i = 0; i < 100; i++) {
            sum = sum * 31 + 3;
        }
        String row = "tttttttttt";
        StringBuilder rows = new StringBuilder(row);
        for (int y = 1; y < 10; y++) {
            rows.append('/').append(row);
        }
        Check.due("wrapped round", Check.desk("design 9999 " + rows + ";").print(), sum);
    }
}
