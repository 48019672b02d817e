/** Promises 1 to 4: a new object, feed, text, fault. */
final class BoundsOfTape {
    private BoundsOfTape() {
    }

    static void run() {
        newObject();
        twentyBytes();
        eightHundred();
        firstBytes();
        faults();
        wrongLengths();
        places();
        noPlaces();
    }

    private static void newObject() {
        Check.by("Promise 1", "makes an object in the state that the terms give.");
        DesignDesk desk = new DesignDesk();
        Check.due("designs", desk.told(0), 0);
        Check.due("rule", desk.told(1), 0);
        Check.due("bytes", desk.told(2), 0);
        Check.due("acts", desk.told(3), 0);
        Check.due("fault", desk.fault(), -1);
        Check.due("print", desk.print(), 0);
        Check.due("groups", desk.groups(), 0);
        Check.due("status(0)", desk.status(0), 0);
        Check.due("status(1)", desk.status(1), 0);
        Check.due("undo", desk.undo(), -1);
        Check.missing("a design", () -> desk.of(0, 0));
        Check.missing("a cell", () -> desk.cell(0, 0, 0));
        // objects have nothing in common
        DesignDesk first = Check.desk("design 1 #;");
        DesignDesk second = new DesignDesk();
        Check.due("designs of another one", second.told(0), 0);
        Check.due("bytes of another one", second.feed(0, 0, 0, 0, 0), 20);
        Check.due("designs of the first one", first.told(0), 1);
        Check.due("bytes of the first one", first.told(2), 0);
    }

    private static void twentyBytes() {
        Check.by("Promise 2", "Twenty bytes come on the TAPE, of each number the highest first: how many there are;");
        DesignDesk desk = new DesignDesk();
        String text = "design 7 #ot./t.o#; ";
        Check.due("twenty", desk.feed(Check.four(text, 0), Check.four(text, 4), Check.four(text, 8),
                Check.four(text, 12), Check.four(text, 16)), 20);
        Check.due("told(2)", desk.told(2), 20);
        Check.due("text", desk.text(20), 1);
        int[] sorts = {1, 2, 3, 0, 3, 0, 2, 1};
        for (int i = 0; i < 8; i++) {
            Check.due("cell " + i, desk.cell(0, i % 4, i / 4), sorts[i]);
        }
        // the highest byte of a number below 0 is one of 128 to 255, not a sign of its own
        for (int i = 0; i < 4; i++) {
            DesignDesk high = new DesignDesk();
            high.feed(0x20202020 & ~(0xff << 24 - 8 * i) | 0xff << 24 - 8 * i, 0x20202020, 0x20202020, 0x20202020,
                    0x20202020);
            Check.due("byte 255 at " + i, high.text(20), -9);
            Check.due("its place", high.fault(), i);
        }
        int[] blanks = {0x20202020, 0x20202020, 0x20202020, 0x20202020, 0x20202020};
        for (int i = 0; i < 5; i++) {
            int[] numbers = blanks.clone();
            numbers[i] = Integer.MIN_VALUE;
            DesignDesk least = new DesignDesk();
            least.feed(numbers[0], numbers[1], numbers[2], numbers[3], numbers[4]);
            Check.due("least number " + i, least.text(20), -9);
            Check.due("its place", least.fault(), 4 * i);
        }
    }

    private static void eightHundred() {
        Check.by("Promise 2", "NONE, doing nothing, if there would be more than 800.");
        DesignDesk desk = new DesignDesk();
        String text = " ".repeat(789) + "design 6 #;";
        for (int i = 1; i <= 40; i++) {
            int at = 20 * i - 20;
            Check.due("feed " + i, desk.feed(Check.four(text, at), Check.four(text, at + 4),
                    Check.four(text, at + 8), Check.four(text, at + 12), Check.four(text, at + 16)), 20 * i);
        }
        Check.due("bytes", desk.told(2), 800);
        for (int i = 0; i < 3; i++) {
            Check.due("one more", desk.feed(1, 2, 3, 4, 5), -1);
            Check.due("bytes", desk.told(2), 800);
        }
        Check.due("it is no refusal", desk.status(0) + desk.status(1), 0);
        Check.due("the bytes are as they were", desk.text(800), 1);
        Check.due("the last ones, too", desk.of(0, 0), 6);
        Check.due("room again", desk.feed(1, 2, 3, 4, 5), 20);
    }

    private static void firstBytes() {
        Check.by("Promise 3", "The first n bytes of the TAPE (empty then) tell all anew: how many DESIGNS;");
        String text = "design 1 #;design 2 ##;rule 1=1;";
        int[] lengths = {0, 11, 23, 32};
        for (int i = 0; i < 4; i++) {
            DesignDesk desk = Check.desk("design 8 t;design 8 t;design 8 t;rule 1=2;");
            Check.feed(desk, text);
            Check.due("text(" + lengths[i] + ")", desk.text(lengths[i]), Math.min(i, 2));
            Check.due("bytes left", desk.told(2), 0);
            Check.due("designs", desk.told(0), Math.min(i, 2));
            Check.due("rule", desk.told(1), i == 3 ? 1 : 0);
            Check.due("the next feed is the first", Check.feed(desk, "design 5 o;"), 20);
            Check.due("and is read alone", desk.text(11), 1);
            Check.due("its day", desk.of(0, 0), 5);
        }
        // what was asked of the designs that are gone is not kept for the new ones
        DesignDesk asked = Check.desk(Texts.pair("##", "##"));
        Check.due("best ahead", asked.best(0, 1, 1), 1);
        Check.tell(asked, Texts.pair("##", "#"));
        Check.due("best of those told anew", asked.best(0, 1, 1), 2);
        Check.tell(asked, Texts.pair("##", ".."));
        Check.due("not alike", asked.best(0, 1, 0), 0);
        DesignDesk small = Check.desk(Texts.design(1, Texts.grid('t', 10, 10)));
        Check.tell(small, "design 2 .;");
        Check.due("nothing of a greater one stays", small.of(0, 6) + small.of(0, 1) + small.of(0, 2), 2);
        Check.missing("its cells", () -> small.cell(0, 1, 0));
        Check.due("six", Check.tell(small, Texts.designs(6)), 6);
        Check.due("none of nothing", small.text(0), 0);
        Check.due("once more", small.text(0), 0);
        Check.due("acts", small.told(3), 5);
    }

    private static void faults() {
        Check.by("Promise 3", "or the FAULT less 10 (all but the TAPE stays).");
        String[] texts = {"x", "design 10000 #;", Texts.designs(7), "rule (((((1)))))=1;"};
        for (int fault = 1; fault <= 4; fault++) {
            DesignDesk desk = Check.desk("design 1 ##/.o;design 2 #t/#.;rule alike>500;");
            long print = desk.print();
            Check.due("fault " + fault, Check.tell(desk, texts[fault - 1]), fault - 10);
            Check.due("bytes", desk.told(2), 0);
            Check.due("designs", desk.told(0), 2);
            Check.due("rule", desk.told(1), 1);
            Check.due("acts", desk.told(3), 1);
            Check.due("print", desk.print(), print);
            Check.due("groups", desk.groups(), 1);
            Check.due("refusals", desk.status(0) + desk.status(1), 0);
        }
        nothingOfAFaultStays();
        // the last byte, when all else has been read
        DesignDesk desk = Check.desk("design 1 #;design 2 ##;");
        Check.due("a fault at the end", Check.tell(desk, "design 3 t;rule 1=1;?"), -9);
        Check.due("rule", desk.told(1), 0);
        Check.due("day", desk.of(0, 0), 1);
        Check.due("what can be taken back", desk.undo(), 0);
    }

    /** A text that ended anywhere leaves nothing behind for the next one, of its rule or its designs. */
    private static void nothingOfAFaultStays() {
        String spoilt = "design 9 tt/oo/tt;rule not not (9+9*(9-9))*9>9 or not 9<9+9 and 9=9*(9);design 8 to/ot;";
        String good = "design 1 #;design 2 #;rule ";
        for (int length = 1; length < spoilt.length(); length++) {
            DesignDesk desk = new DesignDesk();
            Check.feed(desk, spoilt);
            desk.text(length);
            String call = "behind '" + spoilt.substring(0, length) + "'";
            Check.due(call, Check.tell(desk, good + "1=1;"), 2);
            Check.due(call + ", a rule that holds", desk.infringes(0, 1), 1);
            Check.due(call + ", print", desk.print(), ((31 + 1) * 31 + 2) * 31 + 1);
            Check.feed(desk, spoilt);
            desk.text(length);
            Check.due(call + ", another rule", Check.tell(desk, good + "1=2 or (1)+1=3;"), 2);
            Check.due(call + ", one that does not", desk.infringes(0, 1), 0);
            Check.feed(desk, spoilt);
            desk.text(length);
            Check.due(call + ", a deep rule", Check.tell(desk, good + "not not not not 1=1 and ((((1))))=1;"), 2);
            Check.due(call + ", it holds", desk.infringes(0, 1), 1);
        }
    }

    private static void wrongLengths() {
        Check.by("Promise 3", "IllegalArgumentException: n is not 0 to the TAPE's bytes (it stays).");
        DesignDesk desk = new DesignDesk();
        Check.number("text(1) of 0", () -> desk.text(1));
        Check.number("text(-1) of 0", () -> desk.text(-1));
        Check.due("text(0) of 0", desk.text(0), 0);
        Check.feed(desk, "design 1 #;");
        int[] wrong = {-1, 21, 800, 801, Integer.MIN_VALUE, Integer.MAX_VALUE};
        for (int n : wrong) {
            Check.number("text(" + n + ") of 20", () -> desk.text(n));
            Check.due("bytes", desk.told(2), 20);
        }
        Check.due("refused", desk.status(1), 8);
        Check.due("its bytes stay", desk.text(11), 1);
        Check.feed(desk, "design 1 #;         ");
        Check.due("text(20) of 20", desk.text(20), 1);
        Check.feed(desk, " ".repeat(800));
        Check.number("text(801) of 800", () -> desk.text(801));
        Check.due("text(800) of 800", desk.text(800), 0);
        Check.number("text(1) of none again", () -> desk.text(1));
    }

    private static void places() {
        Check.by("Promise 4", "The place of the FAULT of the latest text() that threw nothing;");
        DesignDesk desk = new DesignDesk();
        Check.tell(desk, "x");
        Check.due("the first byte", desk.fault(), 0);
        Check.tell(desk, " ".repeat(799) + "x");
        Check.due("the last byte", desk.fault(), 799);
        Check.tell(desk, " ".repeat(794) + "design");
        Check.due("behind the last byte", desk.fault(), 800);
        Check.number("one that throws", () -> desk.text(1));
        Check.due("it stays then", desk.fault(), 800);
        Check.feed(desk, "design 1 #;");
        Check.due("and behind a feed", desk.fault(), 800);
        desk.text(11);
        desk.paint(0, 0, 0, 0);
        Check.tell(desk, "design 1 #?");
        desk.paint(0, 0, 0, 1);
        desk.drop(0);
        Check.due("and behind other acts", desk.fault(), 10);
        desk.undo();
        desk.undo();
        Check.due("and behind undo", desk.fault(), 10);
        Check.due("asked again", desk.fault(), 10);
    }

    private static void noPlaces() {
        Check.by("Promise 4", "NONE without one, and ahead of any.");
        DesignDesk desk = new DesignDesk();
        Check.due("ahead of any", desk.fault(), -1);
        Check.number("one that throws", () -> desk.text(1));
        Check.due("ahead of any that threw nothing", desk.fault(), -1);
        Check.tell(desk, "x");
        Check.due("with one", desk.fault(), 0);
        Check.tell(desk, "design 1 #;");
        Check.due("without one", desk.fault(), -1);
        Check.tell(desk, "x");
        desk.text(0);
        Check.due("without one, of nothing", desk.fault(), -1);
    }
}
