import java.util.function.LongSupplier;

/** Terms 3: ACTS and what takes them back, exceptions and what they leave as it was. */
final class BoundsOfActs {
    private static final String PART = "Terms 3";

    private BoundsOfActs() {
    }

    static void run() {
        whatIsAnAct();
        latestEight();
        undoneAndActedAgain();
        everyActTakenBack();
        askedNothingChanges();
        firstExceptionTold();
        throwsChangeNothing();
        atFirst();
    }

    private static void whatIsAnAct() {
        Check.by(PART, "ACTS: text() without a FAULT, paint(), day(), drop().");
        DesignDesk desk = new DesignDesk();
        Check.due("at first", desk.told(3), 0);
        Check.feed(desk, Texts.pair("#", "##"));
        Check.due("feed is none", desk.told(3), 0);
        desk.text(23);
        Check.due("text", desk.told(3), 1);
        Check.tell(desk, "x");
        Check.due("text with a fault is none", desk.told(3), 1);
        Check.number("text that throws", () -> desk.text(1));
        Check.due("text that throws is none", desk.told(3), 1);
        desk.text(0);
        Check.due("text of nothing", desk.told(3), 2);
        desk.undo();
        Check.due("undo is none", desk.told(3), 1);
        desk.paint(0, 0, 0, 1);
        Check.due("paint, though the sort stays", desk.told(3), 2);
        desk.day(0, 1);
        Check.due("day, though it stays", desk.told(3), 3);
        desk.drop(1);
        Check.due("drop", desk.told(3), 4);
        Check.missing("paint that throws", () -> desk.paint(1, 0, 0, 1));
        Check.number("day that throws", () -> desk.day(0, 10000));
        Check.missing("drop that throws", () -> desk.drop(1));
        Check.due("those that throw are none", desk.told(3), 4);
    }

    private static void latestEight() {
        Check.by(PART, "undo() takes the latest one back that is not yet, of the latest 8.");
        for (int acts = 1; acts <= 20; acts++) {
            DesignDesk desk = Check.desk("design 0 #;");
            for (int act = 2; act <= acts; act++) {
                desk.day(0, act);
            }
            int back = Math.min(8, acts);
            Check.due("acts of " + acts, desk.told(3), back);
            for (int undone = 1; undone <= back; undone++) {
                Check.due("undo " + undone + " of " + acts, desk.undo(), back - undone);
                int left = acts - undone;
                if (left == 0) {
                    Check.due("designs ahead of the first act", desk.told(0), 0);
                } else {
                    Check.due("day behind act " + left, desk.of(0, 0), left == 1 ? 0 : left);
                }
            }
            Check.due("undo beyond " + back, desk.undo(), -1);
            Check.due("once more", desk.undo(), -1);
            Check.due("designs then", desk.told(0), acts <= 8 ? 0 : 1);
            if (acts > 8) {
                Check.due("day then", desk.of(0, 0), acts == 9 ? 0 : acts - 8);
            }
        }
    }

    /** Read as a pile of at most eight: an ACT behind an undo() stands where the one taken back stood. */
    private static void undoneAndActedAgain() {
        DesignDesk desk = Check.desk("design 0 #;");
        for (int day = 1; day <= 3; day++) {
            desk.day(0, day);
        }
        desk.undo();
        desk.undo();
        desk.day(0, 10);
        Check.due("acts", desk.told(3), 3);
        Check.due("the new one is taken back first", desk.undo(), 2);
        Check.due("day", desk.of(0, 0), 1);
        Check.due("then the one ahead of those undone", desk.undo(), 1);
        Check.due("day", desk.of(0, 0), 0);
        desk.undo();
        Check.due("none is left", desk.undo(), -1);
        Check.due("an act behind that", Check.tell(desk, "design 5 #;"), 1);
        Check.due("acts", desk.told(3), 1);
        Check.due("it is taken back", desk.undo(), 0);
        Check.due("designs", desk.told(0), 0);
    }

    private static void everyActTakenBack() {
        DesignDesk desk = Check.desk("design 1 ##/.o;design 2 #t;design 3 #;rule age>0;");
        String[] states = new String[9];
        states[0] = states(desk);
        int kept = 0;
        desk.paint(0, 1, 1, 3);
        states[++kept] = states(desk);
        desk.day(2, 0);
        states[++kept] = states(desk);
        desk.drop(0);
        states[++kept] = states(desk);
        Check.tell(desk, "design 7 ####;");
        states[++kept] = states(desk);
        desk.paint(0, 3, 0, 2);
        states[++kept] = states(desk);
        desk.text(0);
        states[++kept] = states(desk);
        Check.tell(desk, Texts.designs(6) + "rule 1=2;");
        states[++kept] = states(desk);
        desk.drop(5);
        while (kept >= 0) {
            desk.undo();
            Check.same("taken back to state " + kept, states(desk), states[kept]);
            kept--;
        }
        Check.due("the first text is too far back", desk.undo(), -1);
    }

    /** What an ACT may change: the acts themselves are counted apart. */
    private static String states(DesignDesk desk) {
        StringBuilder state = new StringBuilder();
        state.append(desk.print()).append(' ').append(desk.told(0)).append(' ').append(desk.told(1)).append(' ')
                .append(desk.groups());
        for (int a = 1; a < desk.told(0); a++) {
            for (int what = 0; what < 5; what++) {
                state.append(' ').append(desk.best(a, 0, what));
            }
        }
        return state.toString();
    }

    private static void askedNothingChanges() {
        Check.by(PART, "Asked, nothing stays changed.");
        DesignDesk desk = Check.desk("design 1 ##/.o;design 2 #t/#.;design 2 .#;rule alike>500;");
        Check.feed(desk, "design 9 #;");
        String state = Check.stateOf(desk);
        int refused = 10 * desk.status(0) + desk.status(1);
        for (int what = 0; what <= 12; what++) {
            desk.of(what % 3, what);
        }
        for (int turn = 0; turn < 8; turn++) {
            desk.over(0, 1, turn, turn - 4, 4 - turn, turn % 2);
        }
        for (int what = 0; what < 5; what++) {
            desk.best(what % 2, 2, what);
        }
        desk.cell(0, 1, 1);
        desk.prior(1, 0);
        desk.infringes(2, 1);
        desk.nearest(2);
        desk.groups();
        desk.print();
        desk.fault();
        desk.told(0);
        Check.due("status", 10 * desk.status(0) + desk.status(1), refused);
        Check.same("state", Check.stateOf(desk), state);
        Check.due("the tape's bytes", desk.text(11), 1);
        Check.due("their day", desk.of(0, 0), 9);
    }

    private static void firstExceptionTold() {
        Check.by(PART, "Of several exceptions of one call the one told first is thrown;");
        DesignDesk desk = Check.desk(Texts.pair("#", "#"));
        Check.missing("paint: no design, no sort", () -> desk.paint(2, 0, 0, 4));
        Check.missing("paint: no cell, no sort", () -> desk.paint(0, 1, 0, 4));
        Check.missing("paint: no row, no sort", () -> desk.paint(0, 0, -1, -1));
        Check.number("paint: no sort alone", () -> desk.paint(0, 0, 0, 4));
        Check.missing("day: no design, no day", () -> desk.day(2, 10000));
        Check.number("day: no day alone", () -> desk.day(1, 10000));
        Check.missing("of: no design, no number", () -> desk.of(-1, 13));
        Check.number("of: no number alone", () -> desk.of(1, 13));
        Check.missing("over: no A, all else wrong", () -> desk.over(2, 1, 8, 21, 21, 2));
        Check.missing("over: no B, all else wrong", () -> desk.over(1, 2, 8, 21, 21, 2));
        Check.missing("over: neither, A is B", () -> desk.over(2, 2, 0, 0, 0, 0));
        Check.number("over: A is B, all else wrong", () -> desk.over(1, 1, 8, 21, 21, 2));
        Check.missing("best: no A, no number", () -> desk.best(2, 1, 5));
        Check.missing("best: no B, no number", () -> desk.best(1, 2, 5));
        Check.missing("best: neither, A is B", () -> desk.best(-1, -1, 0));
        Check.number("best: A is B, no number", () -> desk.best(1, 1, 5));
        Check.missing("prior: no design, no number", () -> desk.prior(2, 3));
        Check.number("prior: no number alone", () -> desk.prior(1, 3));
        Check.missing("infringes: neither, A is B", () -> desk.infringes(2, 2));
        Check.number("infringes: A is B alone", () -> desk.infringes(1, 1));
        // each call is counted once
        Check.due("status(0)", desk.status(0), 13);
        Check.due("status(1)", desk.status(1), 7);
    }

    private static void throwsChangeNothing() {
        Check.by(PART, "a call that throws changes nothing but status().");
        DesignDesk desk = Check.desk("design 1 ##/.o;design 2 #t/#.;rule alike>500;");
        Check.tell(desk, "design 1 #;x");
        desk.day(1, 3);
        Check.feed(desk, "design 9 #;");
        String state = Check.stateOf(desk);
        LongSupplier[] numbers = {() -> desk.text(-1), () -> desk.text(21), () -> desk.paint(0, 0, 0, 4),
            () -> desk.day(0, -1), () -> desk.told(4), () -> desk.of(0, 13), () -> desk.over(0, 1, 8, 0, 0, 0),
            () -> desk.over(0, 0, 0, 0, 0, 0), () -> desk.best(0, 1, 5), () -> desk.prior(0, 3),
            () -> desk.infringes(0, 0)};
        LongSupplier[] missing = {() -> desk.paint(2, 0, 0, 0), () -> desk.paint(0, 2, 0, 0), () -> desk.day(2, 0),
            () -> desk.drop(2), () -> desk.of(2, 0), () -> desk.cell(0, 0, 2), () -> desk.over(0, 2, 0, 0, 0, 0),
            () -> desk.best(2, 0, 0), () -> desk.prior(2, 0), () -> desk.infringes(0, 2), () -> desk.nearest(2)};
        for (int i = 0; i < 11; i++) {
            Check.number("number " + i, numbers[i]);
            Check.missing("missing " + i, missing[i]);
            Check.due("status(1)", desk.status(1), i + 1);
            Check.due("status(0)", desk.status(0), i + 1);
            Check.same("state behind calls " + i, Check.stateOf(desk), state);
        }
        Check.due("the place of the fault stays", desk.fault(), 11);
        Check.due("the tape's bytes stay", desk.text(11), 1);
        Check.due("the acts stay", desk.undo(), 2);
        Check.due("the day", desk.of(1, 0), 3);
        desk.undo();
        Check.due("what undo brings back stays", desk.of(1, 0), 2);
    }

    private static void atFirst() {
        Check.by(PART, "At first there are no DESIGNS.");
        DesignDesk desk = new DesignDesk();
        Check.due("told(0)", desk.told(0), 0);
        for (int design = -1; design <= 6; design++) {
            int asked = design;
            Check.missing("of(" + design + ", 0)", () -> desk.of(asked, 0));
        }
    }
}
