/** Promise 19, and what a call that throws leaves as it was. */
public final class RefusalTest {
    public static void main(String[] args) {
        DesignDesk desk = Check.desk("design 1 #.;design 2 ##;rule 1=1;");
        Check.feed(desk, "design 3 ooo;");
        desk.day(0, 4);
        long print = desk.print();
        int missing = 0;
        int numbers = 0;
        int[] wrong = {Integer.MIN_VALUE, -1, 2, 6, Integer.MAX_VALUE};
        for (int d : wrong) {
            Check.missing("of " + d, () -> desk.of(d, 0));
            Check.missing("cell " + d, () -> desk.cell(d, 0, 0));
            Check.missing("paint " + d, () -> desk.paint(d, 0, 0, 0));
            Check.missing("day " + d, () -> desk.day(d, 0));
            Check.missing("drop " + d, () -> desk.drop(d));
            Check.missing("over a " + d, () -> desk.over(d, 0, 0, 0, 0, 0));
            Check.missing("over b " + d, () -> desk.over(0, d, 0, 0, 0, 0));
            Check.missing("best a " + d, () -> desk.best(d, 0, 0));
            Check.missing("best b " + d, () -> desk.best(0, d, 0));
            Check.missing("prior " + d, () -> desk.prior(d, 0));
            Check.missing("infringes a " + d, () -> desk.infringes(d, 0));
            Check.missing("infringes b " + d, () -> desk.infringes(0, d));
            Check.missing("nearest " + d, () -> desk.nearest(d));
            missing += 13;
            Check.due("status(0)", desk.status(0), missing);
        }
        for (int x : wrong) {
            Check.missing("cell x " + x, () -> desk.cell(0, x, 0));
            Check.missing("cell y " + x, () -> desk.cell(0, 0, x));
            Check.missing("paint x " + x, () -> desk.paint(0, x, 0, 9));
            Check.missing("paint y " + x, () -> desk.paint(0, 0, x, 9));
            missing += 4;
            Check.due("status(0)", desk.status(0), missing);
        }
        for (int n : new int[] {Integer.MIN_VALUE, -1, 10000, Integer.MAX_VALUE}) {
            Check.number("day " + n, () -> desk.day(0, n));
            Check.number("text " + n, () -> desk.text(n));
            Check.number("told " + n, () -> desk.told(n));
            Check.number("of " + n, () -> desk.of(0, n));
            Check.number("paint " + n, () -> desk.paint(0, 0, 0, n));
            Check.number("over turn " + n, () -> desk.over(0, 1, n, 0, 0, 0));
            Check.number("over what " + n, () -> desk.over(0, 1, 0, 0, 0, n));
            Check.number("best " + n, () -> desk.best(0, 1, n));
            Check.number("prior " + n, () -> desk.prior(0, n));
            numbers += 9;
            Check.due("status(1)", desk.status(1), numbers);
        }
        Check.due("nothing changed", desk.print(), print);
        Check.due("designs", desk.told(0), 2);
        Check.due("rule", desk.told(1), 1);
        Check.due("tape", desk.told(2), 20);
        Check.due("acts", desk.told(3), 2);
        Check.due("status(2)", desk.status(2), -1);
        Check.due("status(-1)", desk.status(-1), -1);
        Check.due("status(0) stays", desk.status(0), missing);
        Check.due("status(1) stays", desk.status(1), numbers);
        Check.due("a fault is no refusal", desk.text(3), -9);
        desk.undo();
        desk.undo();
        desk.undo();
        Check.due("undo takes none back", desk.status(0) * 1000 + desk.status(1), missing * 1000 + numbers);
        Check.end();
    }
}
