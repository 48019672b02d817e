/** Promises 5 to 9: paint, day, drop, undo, told. */
public final class ActTest {
    public static void main(String[] args) {
        painting();
        days();
        dropping();
        undoing();
        onlyEight();
        undoThenAct();
        telling();
        bestsFollow();
        Check.end();
    }

    private static void painting() {
        DesignDesk desk = Check.desk("design 1 #./ot;design 2 .;");
        Check.due("paint", desk.paint(0, 0, 0, 2), 1);
        Check.due("painted", desk.cell(0, 0, 0), 2);
        Check.due("paint again", desk.paint(0, 0, 0, 3), 2);
        Check.due("paint forced", desk.paint(0, 0, 0, 0), 3);
        Check.due("paint empty", desk.paint(0, 0, 0, 1), 0);
        Check.due("others stay", desk.cell(0, 1, 0) + 10 * desk.cell(0, 0, 1) + 100 * desk.cell(0, 1, 1), 320);
        Check.due("column 1, row 0", desk.paint(0, 1, 0, 1), 0);
        Check.due("column 0, row 1", desk.paint(0, 0, 1, 1), 2);
        Check.due("the other design", desk.cell(1, 0, 0), 0);
        Check.due("acts", desk.told(3), 7);
        long print = desk.print();
        Check.missing("design -1", () -> desk.paint(-1, 0, 0, 0));
        Check.missing("design 2", () -> desk.paint(2, 0, 0, 9));
        Check.missing("column 2", () -> desk.paint(0, 2, 0, 0));
        Check.missing("column -1", () -> desk.paint(0, -1, 0, 0));
        Check.missing("row 2", () -> desk.paint(0, 0, 2, 0));
        Check.missing("row -1, no sort", () -> desk.paint(0, 0, -1, 4));
        Check.number("sort 4", () -> desk.paint(0, 0, 0, 4));
        Check.number("sort -1", () -> desk.paint(0, 0, 0, -1));
        Check.due("nothing changed", desk.print(), print);
        Check.due("acts stay", desk.told(3), 7);
        Check.due("painted as it was is an act", desk.paint(0, 0, 0, desk.cell(0, 0, 0)), 1);
        Check.due("acts", desk.told(3), 8);
    }

    private static void days() {
        DesignDesk desk = Check.desk("design 7 #;design 8 #;");
        Check.due("day", desk.day(0, 9999), 7);
        Check.due("day back", desk.day(0, 0), 9999);
        Check.due("of", desk.of(0, 0), 0);
        Check.due("the other", desk.of(1, 0), 8);
        Check.number("10000", () -> desk.day(0, 10000));
        Check.number("-1", () -> desk.day(1, -1));
        Check.missing("design 2", () -> desk.day(2, -1));
        Check.missing("design -1", () -> desk.day(-1, 1));
        Check.due("acts", desk.told(3), 3);
        Check.due("undo", desk.undo(), 2);
        Check.due("day is back", desk.of(0, 0), 9999);
    }

    private static void dropping() {
        DesignDesk desk = Check.desk("design 1 #;design 2 ##;design 3 ###;rule 1=1;");
        Check.missing("design 3", () -> desk.drop(3));
        Check.missing("design -1", () -> desk.drop(-1));
        Check.due("drop(1)", desk.drop(1), 2);
        Check.due("day of 0", desk.of(0, 0), 1);
        Check.due("day of 1", desk.of(1, 0), 3);
        Check.missing("design 2", () -> desk.of(2, 0));
        Check.due("the rule stays", desk.told(1), 1);
        Check.due("drop(0)", desk.drop(0), 1);
        Check.due("day of 0", desk.of(0, 0), 3);
        Check.due("drop(0)", desk.drop(0), 0);
        Check.due("undo", desk.undo(), 3);
        Check.due("undo", desk.undo(), 2);
        Check.due("undo", desk.undo(), 1);
        Check.due("day of 0", desk.of(0, 0), 1);
        Check.due("day of 1", desk.of(1, 0), 2);
        Check.due("day of 2", desk.of(2, 0), 3);
        Check.due("cells of 1", desk.of(1, 4), 2);
        desk.drop(0);
        for (int i = 0; i < 3; i++) {
            Check.due("told behind a drop", Check.tell(desk, "design 4 #;design 5 ##;design 6 ###;"), 3);
            for (int d = 0; d < 3; d++) {
                Check.due("day of " + d, desk.of(d, 0), 4 + d);
                Check.due("columns of " + d, desk.of(d, 1), 1 + d);
            }
        }
    }

    private static void undoing() {
        DesignDesk desk = Check.desk("design 1 #.;rule 1=1;");
        long first = desk.print();
        Check.tell(desk, "design 2 ##;design 3 o;");
        long second = desk.print();
        desk.paint(0, 0, 0, 3);
        desk.day(1, 77);
        Check.feed(desk, "design 5 #;");
        Check.due("undo day", desk.undo(), 3);
        Check.due("undo paint", desk.undo(), 2);
        Check.due("as it was", desk.print(), second);
        Check.due("the tape is no act", desk.told(2), 20);
        Check.due("undo text", desk.undo(), 1);
        Check.due("as it was", desk.print(), first);
        Check.due("its rule", desk.told(1), 1);
        Check.due("undo the first", desk.undo(), 0);
        Check.due("designs", desk.told(0), 0);
        Check.due("rule", desk.told(1), 0);
        Check.due("none to undo", desk.undo(), -1);
        Check.due("the tape stays", desk.told(2), 20);
        Check.due("a text that throws nothing and is none", Check.tell(desk, "x"), -9);
        Check.due("is no act", desk.undo(), -1);
    }

    private static void onlyEight() {
        DesignDesk desk = Check.desk("design 0 #;");
        for (int i = 1; i <= 10; i++) {
            desk.day(0, i);
            Check.due("acts", desk.told(3), Math.min(8, i + 1));
        }
        for (int i = 9; i >= 2; i--) {
            Check.due("undo to " + i, desk.undo(), i - 2);
            Check.due("day", desk.of(0, 0), i);
        }
        Check.due("no more", desk.undo(), -1);
        Check.due("day stays", desk.of(0, 0), 2);
    }

    private static void undoThenAct() {
        DesignDesk desk = Check.desk("design 0 #;");
        desk.day(0, 1);
        desk.day(0, 2);
        desk.undo();
        desk.day(0, 3);
        Check.due("acts", desk.told(3), 3);
        Check.due("undo", desk.undo(), 2);
        Check.due("day", desk.of(0, 0), 1);
        Check.due("undo", desk.undo(), 1);
        Check.due("day", desk.of(0, 0), 0);
        for (int i = 10; i < 18; i++) {
            desk.day(0, i);
        }
        desk.undo();
        desk.undo();
        desk.day(0, 50);
        desk.day(0, 51);
        Check.due("eight once more", desk.told(3), 8);
        for (int i = 0; i < 8; i++) {
            desk.undo();
        }
        Check.due("back to the eighth", desk.of(0, 0), 0);
    }

    private static void telling() {
        DesignDesk desk = Check.desk("design 1 #;design 1 #;rule 1=1;");
        Check.feed(desk, "xyz");
        Check.due("designs", desk.told(0), 2);
        Check.due("rule", desk.told(1), 1);
        Check.due("tape", desk.told(2), 20);
        Check.due("acts", desk.told(3), 1);
        Check.number("told(4)", () -> desk.told(4));
        Check.number("told(-1)", () -> desk.told(-1));
    }

    /** What is asked follows every ACT, also if it was asked ahead of it. */
    private static void bestsFollow() {
        DesignDesk desk = Check.desk("design 1 ##;design 2 ##;design 3 #;");
        Check.due("alike", desk.best(0, 1, 1), 1);
        Check.due("nearest", desk.nearest(0), 1);
        desk.paint(1, 0, 0, 0);
        Check.due("painted B", desk.best(0, 1, 1), 2);
        Check.due("painted B, other way", desk.best(1, 0, 1), 2);
        desk.paint(0, 0, 0, 0);
        Check.due("painted A", desk.best(0, 1, 1), 1);
        desk.undo();
        Check.due("undone", desk.best(0, 1, 1), 2);
        desk.undo();
        Check.due("undone", desk.best(0, 1, 1), 1);
        desk.drop(1);
        Check.due("dropped", desk.best(0, 1, 1), 2);
        desk.undo();
        Check.due("undone", desk.best(0, 1, 1), 1);
        Check.due("new", desk.of(1, 12), 0);
        desk.day(1, 1);
        Check.due("new by its day", desk.of(1, 12), 1);
        Check.tell(desk, "design 1 ##;design 2 .#;");
        Check.due("told anew", desk.best(0, 1, 1), 2);
        Check.tell(desk, "design 1 ./#;design 2 #./#.;");
        Check.tell(desk, "design 1 ##./.#.;design 2 .##/.#.;");
        Check.due("by a turn", desk.best(0, 1, 2), 1);
        desk.paint(0, 0, 0, 0);
        desk.paint(0, 1, 0, 0);
        desk.paint(0, 1, 1, 2);
        Check.due("no likeness: above", desk.best(0, 1, 0), 0);
        Check.due("no likeness: below", desk.best(0, 1, 1), 1);
        Check.due("no likeness: turn", desk.best(0, 1, 2), 0);
        Check.due("no likeness: dx", desk.best(0, 1, 3), -2);
        Check.due("no likeness: dy", desk.best(0, 1, 4), -1);
    }
}
