/** Promises 1 to 4: a new object, feed, text and its TAPE, fault. */
public final class TapeTest {
    public static void main(String[] args) {
        newObject();
        feeding();
        byteOrder();
        lengths();
        allAnew();
        faultStays();
        Check.end();
    }

    private static void newObject() {
        DesignDesk desk = new DesignDesk();
        for (int what = 0; what < 4; what++) {
            Check.due("new told(" + what + ")", desk.told(what), 0);
        }
        Check.due("new fault()", desk.fault(), -1);
        Check.due("new undo()", desk.undo(), -1);
        Check.due("new groups()", desk.groups(), 0);
        Check.due("new print()", desk.print(), 0);
        Check.due("new status(0)", desk.status(0), 0);
        Check.due("new status(1)", desk.status(1), 0);
    }

    private static void feeding() {
        DesignDesk desk = new DesignDesk();
        for (int i = 1; i <= 40; i++) {
            Check.due("feed " + i, desk.feed(i, i, i, i, i), 20 * i);
        }
        Check.due("feed beyond 800", desk.feed(1, 2, 3, 4, 5), -1);
        Check.due("tape stays", desk.told(2), 800);
        Check.due("refusing nothing", desk.status(0) + desk.status(1), 0);
        Check.due("text(800)", desk.text(800), -9);
        Check.due("tape is empty", desk.told(2), 0);
        Check.due("feed again", desk.feed(1, 2, 3, 4, 5), 20);
    }

    private static void byteOrder() {
        DesignDesk desk = new DesignDesk();
        // "design 7 #ot./t.o#; " with the highest byte of each number first
        desk.feed(0x64657369, 0x676e2037, 0x20236f74, 0x2e2f742e, 0x6f233b20);
        Check.due("text(20)", desk.text(20), 1);
        Check.due("day", desk.of(0, 0), 7);
        int[] sorts = {1, 2, 3, 0, 3, 0, 2, 1};
        for (int i = 0; i < 8; i++) {
            Check.due("cell " + i, desk.cell(0, i % 4, i / 4), sorts[i]);
        }
        // a byte above 127 is no blank and no sign
        desk.feed(0xa0000000, 0, 0, 0, 0);
        Check.due("byte 160", desk.text(1), -9);
        desk.feed(0x20202020, 0x20202020, 0x20202020, 0x20202020, 0x20202020);
        Check.due("blanks alone", desk.text(20), 0);
    }

    private static void lengths() {
        DesignDesk desk = new DesignDesk();
        Check.number("text(1) of none", () -> desk.text(1));
        Check.number("text(-1) of none", () -> desk.text(-1));
        Check.feed(desk, "design 1 #;design 2 #;");
        Check.number("text(41)", () -> desk.text(41));
        Check.number("text(-1)", () -> desk.text(-1));
        Check.number("text(least)", () -> desk.text(Integer.MIN_VALUE));
        Check.due("tape stays", desk.told(2), 40);
        Check.due("refused", desk.status(1), 5);
        Check.due("fault() stays", desk.fault(), -1);
        Check.due("text(11)", desk.text(11), 1);
        Check.due("all the tape is gone", desk.told(2), 0);
        Check.due("text(0)", desk.text(0), 0);
        Check.due("designs are gone", desk.told(0), 0);
        Check.due("acts", desk.told(3), 2);
    }

    private static void allAnew() {
        DesignDesk desk = Check.desk("design 1 #/#;design 2 ##;rule 1=1;");
        Check.due("rule", desk.told(1), 1);
        Check.due("another text", Check.tell(desk, "design 9999 .#.;"), 1);
        Check.due("rule is gone", desk.told(1), 0);
        Check.due("day", desk.of(0, 0), 9999);
        Check.due("columns", desk.of(0, 1), 3);
        Check.due("rows", desk.of(0, 2), 1);
        Check.due("empty ones", desk.of(0, 3), 2);
        Check.due("old row is gone", desk.of(0, 4), 1);
        Check.due("six", Check.tell(desk, "design 0 #;design 0 #;design 0 #;design 0 #;design 0 #;design 0 #;"), 6);
        Check.due("rule alone", Check.tell(desk, "rule dark>1;"), 0);
        Check.due("rule is there", desk.told(1), 1);
    }

    private static void faultStays() {
        DesignDesk desk = Check.desk("design 3 #o;rule 1=1;");
        long print = desk.print();
        Check.due("a fault", Check.tell(desk, "design 4 ##;design x"), -9);
        Check.due("its place", desk.fault(), 19);
        Check.due("designs stay", desk.print(), print);
        Check.due("rule stays", desk.told(1), 1);
        Check.due("no act", desk.told(3), 1);
        Check.due("tape is empty", desk.told(2), 0);
        Check.number("one that throws", () -> desk.text(1));
        Check.due("place stays then", desk.fault(), 19);
        Check.due("undo", desk.undo(), 0);
        Check.due("place stays behind undo", desk.fault(), 19);
        Check.due("a good one", Check.tell(desk, "design 4 ##;"), 1);
        Check.due("no place", desk.fault(), -1);
    }
}
