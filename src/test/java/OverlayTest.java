/** Promises 12, 13, 14 and 16: over, best, prior, nearest. */
public final class OverlayTest {
    public static void main(String[] args) {
        counting();
        shifting();
        turning();
        overRefuses();
        bests();
        bestOrder();
        bestRefuses();
        priors();
        nearests();
        Check.end();
    }

    private static void over(DesignDesk desk, int turn, int dx, int dy, int same, int unlike) {
        String call = "over(0, 1, " + turn + ", " + dx + ", " + dy + ", ";
        Check.due(call + "0)", desk.over(0, 1, turn, dx, dy, 0), same);
        Check.due(call + "1)", desk.over(0, 1, turn, dx, dy, 1), unlike);
    }

    /** Every SORT of A over every one of B. */
    private static void counting() {
        DesignDesk desk = Check.desk("design 1 ..../####/oooo/tttt;design 1 .#ot/.#ot/.#ot/.#ot;");
        over(desk, 0, 0, 0, 2, 3);
        DesignDesk one = Check.desk("design 1 #;design 1 o;design 1 t;design 1 .;design 1 #;");
        Check.due("solid over dotted", one.over(0, 1, 0, 0, 0, 1), 0);
        Check.due("solid over forced, same", one.over(0, 2, 0, 0, 0, 0), 1);
        Check.due("solid over empty", one.over(0, 3, 0, 0, 0, 1), 1);
        Check.due("dotted over solid", one.over(1, 0, 0, 0, 0, 1), 0);
        Check.due("forced over solid", one.over(2, 0, 0, 0, 0, 1), 0);
        Check.due("forced over solid, same", one.over(2, 0, 0, 0, 0, 0), 0);
        Check.due("forced alone", one.over(2, 3, 0, 0, 0, 1), 0);
        Check.due("forced of B alone", one.over(3, 2, 0, 0, 0, 1), 1);
        Check.due("apart", one.over(0, 4, 0, 1, 0, 1), 2);
        Check.due("forced apart from solid", one.over(2, 0, 0, 0, 1, 1), 1);
        Check.due("solid apart from forced", one.over(0, 2, 0, 0, 1, 1), 2);
    }

    private static void shifting() {
        DesignDesk desk = Check.desk("design 1 ##./.#.;design 1 ##/#.;");
        over(desk, 0, 0, 0, 2, 2);
        over(desk, 0, 1, 0, 2, 2);
        over(desk, 0, 0, 1, 1, 4);
        over(desk, 0, -1, 0, 1, 4);
        over(desk, 0, 0, -1, 1, 4);
        over(desk, 0, 1, 1, 1, 4);
        over(desk, 0, 20, 20, 0, 6);
        over(desk, 0, -20, -20, 0, 6);
        over(desk, 0, 20, 0, 0, 6);
        over(desk, 0, 0, -20, 0, 6);
    }

    /** A DESIGN with no looks of its own, told in all its turns. */
    private static void turning() {
        String[] turned = {"###/#../..t/o..", "o.##/...#/.t.#", "..o/t../..#/###", "#.t./#.../##.o",
            "###/..#/t../..o", ".t.#/...#/o.##", "o../..t/#../###", "##.o/#.../#.t."};
        for (int turn = 0; turn < 8; turn++) {
            String flat = turned[turn].replace('t', '#');
            DesignDesk desk = Check.desk("design 1 " + flat + ";design 1 " + turned[0] + ";");
            for (int other = 0; other < 8; other++) {
                int unlike = desk.over(0, 1, other, 0, 0, 1);
                Check.due(turn + " by " + other, unlike == 0 ? 1 : 0, other == turn ? 1 : 0);
            }
            Check.due("same of " + turn, desk.over(0, 1, turn, 0, 0, 0), 5);
        }
    }

    private static void overRefuses() {
        DesignDesk desk = Check.desk("design 1 #;design 2 #;");
        Check.number("turn 8", () -> desk.over(0, 1, 8, 0, 0, 0));
        Check.number("turn -1", () -> desk.over(0, 1, -1, 0, 0, 0));
        Check.number("dx 21", () -> desk.over(0, 1, 0, 21, 0, 0));
        Check.number("dx -21", () -> desk.over(0, 1, 0, -21, 0, 0));
        Check.number("dy 21", () -> desk.over(0, 1, 0, 0, 21, 0));
        Check.number("dy -21", () -> desk.over(0, 1, 0, 0, -21, 0));
        Check.number("dy least", () -> desk.over(0, 1, 0, 0, Integer.MIN_VALUE, 0));
        Check.number("what 2", () -> desk.over(0, 1, 0, 0, 0, 2));
        Check.number("what -1", () -> desk.over(0, 1, 0, 0, 0, -1));
        Check.number("with itself", () -> desk.over(1, 1, 0, 0, 0, 0));
        Check.missing("a 2", () -> desk.over(2, 1, 9, 0, 0, 0));
        Check.missing("b 2", () -> desk.over(0, 2, 0, 0, 0, 0));
        Check.missing("b -1", () -> desk.over(0, -1, 0, 0, 0, 9));
        Check.missing("neither", () -> desk.over(5, 5, 0, 0, 0, 0));
        Check.due("refused", 100 * desk.status(0) + desk.status(1), 410);
    }

    private static void best(String a, String b, int... want) {
        DesignDesk desk = Check.desk("design 1 " + a + ";design 1 " + b + ";");
        for (int what = 0; what < want.length; what++) {
            Check.due("best of " + a + " with " + b + ", " + what, desk.best(0, 1, what), want[what]);
        }
    }

    private static void bests() {
        best("##/#.", "##/.#", 1, 1, 3, 0, 0);
        best("##/#.", "#", 1, 3, 0, 0, 0);
        best("####", "##", 1, 2, 0, 0, 0);
        best("#", "##/##", 1, 4, 0, -1, -1);
        best(".#", "#", 1, 1, 0, 1, 0);
        best("./#", ".#", 1, 1, 0, -1, 1);
        best("t#", "##", 1, 1, 0, 0, 0);
        best("##", "t#", 1, 1, 0, 0, 0);
        best("##", "o#", 1, 1, 0, 0, 0);
        best("#", "o", 0, 1, 0, 0, 0);
        best("..", "..", 0, 1, 0, -1, 0);
        best("../..", ".../.../...", 0, 1, 0, -2, -2);
        best("ot/to", "##/##", 0, 1, 0, -1, -1);
        best("#..#", "#.#", 1, 3, 0, -2, 0);
        best("###/#.#/#.#", "###/..#/###", 1, 1, 3, 0, 0);
        best("#######", "######", 6, 7, 0, 0, 0);
        best("##########/##########", "#/#/#/#/#/#/#/#/#/#", 1, 2, 1, 0, 0);
    }

    /** Of several the least TURN, then dy, then dx. */
    private static void bestOrder() {
        best("#.#/.../#.#", "#", 1, 4, 0, 0, 0);
        best("..#/#..", "#", 1, 2, 0, 2, 0);
        best("#.", ".#", 1, 1, 0, -1, 0);
        best("#.#", "#/#", 1, 3, 0, 0, -1);
        best("##/##", "#./.#", 1, 2, 0, 0, 0);
        best("##./.##", ".##/##.", 1, 1, 4, 0, 0);
        best("#./#./##", "..#/###", 1, 1, 1, 0, 0);
    }

    private static void bestRefuses() {
        DesignDesk desk = Check.desk("design 1 #;design 2 #;");
        Check.number("what 5", () -> desk.best(0, 1, 5));
        Check.number("what -1", () -> desk.best(0, 1, -1));
        Check.number("with itself", () -> desk.best(0, 0, 0));
        Check.missing("a 2", () -> desk.best(2, 0, 0));
        Check.missing("b 2", () -> desk.best(0, 2, 9));
        Check.missing("neither", () -> desk.best(-1, -1, 0));
    }

    private static void prior(DesignDesk desk, int a, int above, int below, int by) {
        Check.due("prior(" + a + ", 0)", desk.prior(a, 0), above);
        Check.due("prior(" + a + ", 1)", desk.prior(a, 1), below);
        Check.due("prior(" + a + ", 2)", desk.prior(a, 2), by);
    }

    private static void priors() {
        DesignDesk desk = Check.desk(
                "design 9 ####;design 3 ###;design 5 ##;design 3 ##;design 8 o;design 3 ###;");
        prior(desk, 0, 3, 4, 1);
        prior(desk, 1, 0, 1, -1);
        prior(desk, 2, 1, 1, 3);
        prior(desk, 3, 0, 1, -1);
        prior(desk, 4, 0, 1, 1);
        desk.day(1, 9);
        prior(desk, 0, 3, 4, 5);
        prior(desk, 1, 1, 1, 5);
        Check.number("prior(0, 3)", () -> desk.prior(0, 3));
        Check.number("prior(0, -1)", () -> desk.prior(0, -1));
        Check.missing("prior(6, 3)", () -> desk.prior(6, 3));
        Check.missing("prior(-1, 0)", () -> desk.prior(-1, 0));
        // A with the earlier one, not the other way round: what is set aside in A makes it alike
        DesignDesk two = Check.desk("design 1 ##;design 2 #t;");
        prior(two, 1, 1, 1, 0);
        Check.due("the other way", two.best(1, 0, 1) * 10 + two.best(0, 1, 1), 11);
        DesignDesk three = Check.desk("design 1 ##;design 2 to;");
        prior(three, 1, 0, 1, 0);
    }

    private static void nearests() {
        DesignDesk desk = Check.desk("design 1 ####;design 1 ##;design 1 ###;design 1 .###;");
        Check.due("nearest(0)", desk.nearest(0), 2);
        Check.due("nearest(1)", desk.nearest(1), 2);
        Check.due("nearest(2)", desk.nearest(2), 3);
        Check.due("nearest(3)", desk.nearest(3), 2);
        Check.missing("nearest(4)", () -> desk.nearest(4));
        Check.missing("nearest(-1)", () -> desk.nearest(-1));
        Check.due("alone", Check.desk("design 1 #;").nearest(0), -1);
        DesignDesk empty = Check.desk("design 1 .;design 1 .;design 1 #;");
        Check.due("none alike", empty.nearest(0), 1);
        Check.due("none alike", empty.nearest(1), 0);
        Check.due("none alike", empty.nearest(2), 0);
        // A's own dotted cells do not count: 0 with 1 is whole, 0 with 2 is not
        DesignDesk dotted = Check.desk("design 1 #o;design 1 .#;design 1 ##/##;design 1 ##;");
        Check.due("nearest of a dotted one", dotted.nearest(0), 1);
        Check.due("nearest of the square", dotted.nearest(2), 3);
    }
}
