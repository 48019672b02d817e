/** Terms 2: FREEDOM, PRIOR, NEW, INFRINGES. */
final class BoundsOfRules {
    private static final String PART = "Terms 2";
    private static final String FULL = Texts.grid('#', 10, 10);

    private BoundsOfRules() {
    }

    static void run() {
        freedom();
        lesserDay();
        greatestPrior();
        newOnes();
        twoUnlikeOnes();
        facts();
        held();
        withoutRule();
    }

    private static void freedom() {
        Check.by(PART, "FREEDOM of A: CELLS that are EMPTY or SOLID, by all CELLS, times 1,000, cut.");
        String[] rows = {".", "#", "o", "t", "#o", ".t", "#.o", "#ot", "......o", "oooooo#", ".#ot/.#ot"};
        int[] due = {1000, 1000, 0, 0, 500, 500, 666, 333, 857, 142, 500};
        for (int i = 0; i < rows.length; i++) {
            Check.due("freedom of " + rows[i], Check.desk(Texts.design(1, rows[i])).of(0, 11), due[i]);
        }
        Check.due("all of 100", Check.desk(Texts.design(1, FULL)).of(0, 11), 1000);
        Check.due("none of 100", Check.desk(Texts.design(1, Texts.grid('t', 10, 10))).of(0, 11), 0);
        Check.due("one of 100", Check.desk(Texts.design(1, Texts.spot(9, 9, '.', 'o', 10, 10))).of(0, 11), 10);
        Check.due("one of 90", Check.desk(Texts.design(1, Texts.spot(8, 9, '#', 'o', 9, 10))).of(0, 11), 11);
        Check.due("89 of 90", Check.desk(Texts.design(1, Texts.spot(0, 0, 't', '#', 9, 10))).of(0, 11), 988);
    }

    private static void lesserDay() {
        Check.by(PART, "PRIOR of A: of all DESIGNS with a lesser DAY");
        DesignDesk desk = Check.desk("design 5 ##;design 5 ##;");
        int[] days = {0, 4, 5, 6, 9999};
        for (int day : days) {
            desk.day(1, day);
            Check.due("above, day " + day, desk.prior(0, 0), day < 5 ? 1 : 0);
            Check.due("by which, day " + day, desk.prior(0, 2), day < 5 ? 1 : -1);
            Check.due("by which, the other way, day " + day, desk.prior(1, 2), day > 5 ? 0 : -1);
        }
        desk.day(0, 0);
        desk.day(1, 0);
        Check.due("both at day 0", desk.prior(0, 2), -1);
        desk.day(0, 9999);
        Check.due("at day 9,999 and 0", desk.prior(0, 2), 1);
    }

    private static void greatestPrior() {
        Check.by(PART, "the greatest ALIKE of BEST OVERLAYS of A with them (0 by 1 without any).");
        DesignDesk desk = Check.desk("design 9 ####;design 8 #;design 8 ###;design 8 ##;design 9 ####;design 0 .;");
        fraction(desk, 0, 3, 4);
        desk.day(2, 9);
        fraction(desk, 0, 1, 2);
        desk.day(3, 9);
        fraction(desk, 0, 1, 4);
        desk.day(1, 9);
        fraction(desk, 0, 0, 1);
        Check.due("by one that is not alike at all", desk.prior(0, 2), 5);
        desk.day(5, 9);
        fraction(desk, 0, 0, 1);
        Check.due("without any", desk.prior(0, 2), -1);
        fraction(Check.desk("design 9 #;"), 0, 0, 1);
        // overlays of A with them: what is FORCED in A does not count, in them it does
        DesignDesk two = Check.desk("design 2 #t;design 1 #./.#;design 3 #./.#;");
        fraction(two, 0, 1, 2);
        fraction(two, 2, 1, 1);
    }

    private static void fraction(DesignDesk desk, int a, int above, int below) {
        Check.due("above", desk.prior(a, 0), above);
        Check.due("below", desk.prior(a, 1), below);
    }

    private static void newOnes() {
        Check.by(PART, "A is NEW, if PRIOR is less than 1.");
        Check.due("without any", Check.desk("design 5 #;").of(0, 12), 1);
        DesignDesk desk = Check.desk(Texts.design(5, FULL) + Texts.design(4, FULL));
        Check.due("1 by 1", desk.of(0, 12), 0);
        desk.paint(1, 9, 9, 0);
        Check.due("99 by 100", desk.prior(0, 0) * 1000 + desk.prior(0, 1), 99100);
        Check.due("99 by 100 is less", desk.of(0, 12), 1);
        desk.paint(0, 9, 9, 3);
        Check.due("forced in A", desk.of(0, 12), 0);
        desk.day(1, 5);
        Check.due("of the same day", desk.of(0, 12), 1);
        DesignDesk none = Check.desk("design 5 .;design 4 .;");
        Check.due("nothing dark in either", none.of(0, 12), 1);
    }

    private static void twoUnlikeOnes() {
        Check.by(PART, "B INFRINGES A (two unlike ones), if the rule holds:");
        DesignDesk desk = Check.desk("design 1 #;design 1 #;rule 1=1;");
        Check.due("it holds", desk.infringes(0, 1), 1);
        Check.number("A is B", () -> desk.infringes(0, 0));
        DesignDesk other = Check.desk("design 1 #;design 1 #;rule 1=2;");
        Check.due("it does not", other.infringes(0, 1), 0);
        Check.number("A is B", () -> other.infringes(1, 1));
        Check.due("a rule, though alike is 1,000", other.infringes(1, 0), 0);
    }

    private static void fact(String designs, String fact, int value) {
        int[] beside = {value - 1, value, value + 1};
        for (int i = 0; i < 3; i++) {
            // a number below 0 is told as a difference, one above 9,999 as a sum
            int n = beside[i];
            String told = n < 0 ? "0-" + told(-n) : told(n);
            DesignDesk desk = Check.desk(designs + "rule " + fact + "=" + told + ";");
            Check.due(fact + "=" + told + " in " + designs, desk.infringes(0, 1), i == 1 ? 1 : 0);
        }
    }

    private static String told(int number) {
        return number <= 9999 ? Integer.toString(number) : "9999+" + (number - 9999);
    }

    private static void facts() {
        Check.by(PART, "alike: ALIKE of the BEST OVERLAY of A with B, freedom: FREEDOM of A, prior: PRIOR of A "
                + "(alike, prior times 1,000, cut), dark: DARK CELLS of B, age: DAY of B less that of A;");
        fact(Texts.pair("#", "."), "alike", 0);
        fact(Texts.pair("#", "#"), "alike", 1000);
        fact(Texts.pair("###", "##"), "alike", 666);
        fact(Texts.pair("###", "#"), "alike", 333);
        fact(Texts.pair(FULL, Texts.filled(99, '#', '.', 10, 10)), "alike", 990);
        fact(Texts.pair(Texts.filled(97, '#', '.', 10, 10), Texts.filled(96, '#', '.', 10, 10)), "alike", 989);
        fact(Texts.pair("#t", "#./.#"), "alike", 500);
        fact(Texts.pair("#./.#", "#t"), "alike", 333);
        fact(Texts.pair("ot", "##"), "freedom", 0);
        fact(Texts.pair("##", "ot"), "freedom", 1000);
        fact(Texts.pair("##o", "ot"), "freedom", 666);
        fact("design 5 ###;design 5 ##;", "prior", 0);
        fact("design 5 ###;design 4 ##;", "prior", 666);
        fact("design 5 ###;design 6 #;design 4 ##;", "prior", 666);
        fact("design 5 ###;design 6 ##;design 4 ###;", "prior", 1000);
        fact("design 5 ###;design 9 ##;design 8 ##;", "prior", 0);
        fact(Texts.pair("##", ".o"), "dark", 0);
        fact(Texts.pair("..", "t#./o.#"), "dark", 3);
        fact(Texts.pair(".", Texts.grid('t', 10, 10)), "dark", 100);
        fact("design 7 #;design 7 #;", "age", 0);
        fact("design 7 #;design 9 #;", "age", 2);
        fact("design 9 #;design 7 #;", "age", -2);
        fact("design 0 #;design 9999 #;", "age", 9999);
        fact("design 9999 #;design 0 #;", "age", -9999);
    }

    private static void holds(String rule, int due) {
        Check.due(rule, Check.desk(Texts.pair("#", "#") + "rule " + rule + ";").infringes(0, 1), due);
    }

    private static void held() {
        Check.by(PART, "as longs, each sum, difference, product held to 1,000,000 below and above 0.");
        String most = "1000*1000";
        String least = "(0-1000)*1000";
        // a sum
        holds(most + "-2+1=" + most + "-1", 1);
        holds(most + "-1+1=" + most, 1);
        holds(most + "+1=" + most, 1);
        holds(most + "+1-1=" + most + "-1", 1);
        holds(least + "+(0-1)=" + least, 1);
        // a difference
        holds(least + "+2-1=" + least + "+1", 1);
        holds(least + "+1-1=" + least, 1);
        holds(least + "-1=" + least, 1);
        holds(least + "-1+1=" + least + "+1", 1);
        holds(most + "-(0-1)=" + most, 1);
        holds(most + "-" + least + "=" + most, 1);
        holds(least + "-" + most + "=" + least, 1);
        // a product
        holds("999*1001=" + most + "-1", 1);
        holds("999*1001<" + most, 1);
        holds("101*9901=" + most, 1);
        holds("101*9901-1=" + most + "-1", 1);
        holds("9999*9999=" + most, 1);
        holds("(0-9999)*9999=" + least, 1);
        holds("(0-9999)*(0-9999)=" + most, 1);
        holds("(0-999)*1001=" + least + "+1", 1);
        holds("1000*1000*(1000*1000)=" + most, 1);
        holds("1000*1000*(1000*1000)*(1000*1000)*(1000*1000)=" + most, 1);
        holds("1000*1000*((0-1000)*1000)=" + least, 1);
        // in between, not only at the end: from the left on
        holds("9999*9999*0+5=5", 1);
        holds("9999*9999-9999*9999=0", 1);
        holds("9999*9999-" + most + "=0", 1);
        holds("100*9999+9999-9999=100*9999", 0);
        holds("100*9999-9999+9999=100*9999", 1);
        holds("100*9999+(9999-9999)=100*9999", 1);
    }

    private static void withoutRule() {
        Check.by(PART, "Without a rule: alike is above 700.");
        String[] tens = {"######", "#######", "########", "##########"};
        int[] due = {0, 0, 1, 1};
        for (int i = 0; i < tens.length; i++) {
            Check.due(tens[i] + " by ten", Check.desk(Texts.pair("##########", tens[i])).infringes(0, 1), due[i]);
        }
        // the fractions next to 7 by 10 that two grids can have
        Check.due("70 by 100", cellsOf(100, 70).infringes(0, 1), 0);
        Check.due("71 by 100", cellsOf(100, 71).infringes(0, 1), 1);
        Check.due("68 by 97", cellsOf(97, 68).infringes(0, 1), 1);
        Check.due("67 by 97", cellsOf(97, 67).infringes(0, 1), 0);
        Check.due("69 by 99", cellsOf(99, 69).infringes(0, 1), 0);
        Check.due("none alike", Check.desk(Texts.pair("#", ".")).infringes(0, 1), 0);
        DesignDesk again = Check.desk(Texts.pair("#", "#") + "rule 1=2;");
        Check.due("with a rule", again.infringes(0, 1), 0);
        again.undo();
        Check.tell(again, Texts.pair("#", "#"));
        Check.due("told anew without one", again.infringes(0, 1), 1);
    }

    private static DesignDesk cellsOf(int a, int b) {
        return Check.desk(Texts.pair(Texts.filled(a, '#', '.', 10, 10), Texts.filled(b, '#', '.', 10, 10)));
    }
}
