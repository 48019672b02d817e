/** Promises 15 and 17: infringes and groups, by a rule and without one. */
public final class RuleTest {
    private static final String PAIR = "design 5 ##o/#..;design 9 ##/t.;";

    public static void main(String[] args) {
        without();
        facts();
        priorFact();
        signs();
        binding();
        holding();
        refusals();
        grouping();
        Check.end();
    }

    private static void holds(String rule, int want) {
        Check.due("rule " + rule, Check.desk(PAIR + "rule " + rule + ";").infringes(0, 1), want);
    }

    private static void without() {
        DesignDesk desk = Check.desk("design 1 ##########;design 1 #######;design 1 ########;");
        Check.due("700 is not above", desk.infringes(0, 1), 0);
        Check.due("800 is", desk.infringes(0, 2), 1);
        String four = "##########/##########/##########/##########/";
        DesignDesk just = Check.desk("design 1 " + four + "##########/##########/#######...;design 1 " + four
                + "#######...;");
        Check.due("47 by 67", just.best(0, 1, 0) * 100 + just.best(0, 1, 1), 4767);
        Check.due("701 is", just.infringes(0, 1), 1);
        DesignDesk cut = Check.desk("design 1 #########./#########.;design 1 #######/#######;");
        Check.due("777", cut.infringes(0, 1), 1);
        DesignDesk aside = Check.desk("design 1 #t;design 1 ##;");
        Check.due("set aside in A", aside.infringes(0, 1), 1);
        Check.due("not in B", aside.infringes(1, 0), 1);
        DesignDesk one = Check.desk("design 1 #o;design 1 .#/##;");
        Check.due("A with B", one.infringes(0, 1), 0);
    }

    private static void facts() {
        holds("alike=1000", 1);
        holds("freedom=833", 1);
        holds("prior=0", 1);
        holds("dark=3", 1);
        holds("age=4", 1);
        DesignDesk back = Check.desk(PAIR + "rule age=0-4 and dark=3 and freedom=750 and prior>0;");
        Check.due("the other way", back.infringes(1, 0), 1);
        DesignDesk third = Check.desk("design 1 ###;design 1 #;rule alike=333;");
        Check.due("cut", third.infringes(0, 1), 1);
        DesignDesk two = Check.desk("design 1 ###;design 1 ##;rule alike=666;");
        Check.due("cut", two.infringes(0, 1), 1);
    }

    private static void priorFact() {
        DesignDesk desk = Check.desk("design 5 ###;design 9 #;design 2 ##;rule prior=666;");
        Check.due("prior of A", desk.infringes(0, 1), 1);
        Check.due("prior of A", desk.infringes(0, 2), 1);
        Check.due("none before", desk.infringes(2, 0), 0);
        desk.day(2, 5);
        Check.due("none before any more", desk.infringes(0, 1), 0);
    }

    private static void signs() {
        holds("1<2", 1);
        holds("5<7", 1);
        holds("0<7", 1);
        holds("2<2", 0);
        holds("3<2", 0);
        holds("1=2", 0);
        holds("2=2", 1);
        holds("3=2", 0);
        holds("1>2", 0);
        holds("2>2", 0);
        holds("3>2", 1);
        holds("2+3=5", 1);
        holds("2-3+1=0", 1);
        holds("2*3*4=24", 1);
        holds("not 1=1", 0);
        holds("not 1=2", 1);
        holds("not not 1=1", 1);
        holds("1=1 or 1=2", 1);
        holds("1=2 or 1=1", 1);
        holds("1=2 or 1=2", 0);
        holds("1=1 and 1=2", 0);
        holds("1=2 and 1=1", 0);
        holds("1=1 and 2=2", 1);
        holds("1=1 or 1=1", 1);
        holds("1=1 and 1=1 and 1=1 and not 1=1", 0);
    }

    private static void binding() {
        holds("1+2*3=7", 1);
        holds("2*3+1=7", 1);
        holds("(1+2)*3=9", 1);
        holds("10-3-2=5", 1);
        holds("10-(3-2)=9", 1);
        holds("10-3+2=9", 1);
        holds("20-2*3-4=10", 1);
        holds("2*(3+4*(5-2))=30", 1);
        holds("7=1+2*3", 1);
        holds("1=1 or 1=1 and 1=2", 1);
        holds("1=2 and 1=1 or 1=1", 1);
        holds("1=1 and 1=2 or 1=2 and 1=1", 0);
        holds("not 1=2 and 1=2", 0);
        holds("not 1=1 or 1=1", 1);
        holds("not 1=1 and 1=2", 0);
        holds("not not not 1=2 and not not 1=1", 1);
        holds("((2))*((3))=((6))", 1);
    }

    private static void holding() {
        holds("9999*9999=1000*1000", 1);
        holds("9999*9999-1=999*1000+999*1+0", 1);
        holds("9999*9999+9999=1000*1000", 1);
        holds("0-9999*9999=0-1000*1000", 1);
        holds("(0-9999)*9999-9999=0-1000*1000", 1);
        holds("(0-9999)*(9999*9999)*(0-9999)=1000*1000", 1);
        holds("9999*9999*0=0", 1);
        holds("100*9999+101>1000*1000", 0);
        holds("100*9999+100=1000*1000", 1);
        holds("100*9999+99=1000*1000", 0);
        holds("9999*9999*9999*9999*9999>0", 1);
        holds("9999*9999-9999*9999=0", 1);
        holds("1000*1000+1-1=999*1000+999", 1);
    }

    private static void refusals() {
        DesignDesk desk = Check.desk(PAIR);
        Check.number("with itself", () -> desk.infringes(1, 1));
        Check.missing("a", () -> desk.infringes(2, 1));
        Check.missing("b", () -> desk.infringes(0, -1));
        Check.missing("neither", () -> desk.infringes(3, 3));
    }

    private static void grouping() {
        Check.due("none", new DesignDesk().groups(), 0);
        Check.due("one", Check.desk("design 1 #;").groups(), 1);
        String six = "design 1 #;design 2 ##;design 3 ###;design 4 ####;design 5 #####;design 6 ######;";
        Check.due("all apart", Check.desk(six + "rule 1=2;").groups(), 6);
        Check.due("all one", Check.desk(six + "rule 1=1;").groups(), 1);
        Check.due("one by the other", Check.desk(six + "rule age=1;").groups(), 1);
        Check.due("the other way", Check.desk(six + "rule age=0-1;").groups(), 1);
        Check.due("every other one", Check.desk(six + "rule age=2;").groups(), 2);
        Check.due("every third one", Check.desk(six + "rule age=3;").groups(), 3);
        Check.due("first and last", Check.desk(six + "rule age=5;").groups(), 5);
        Check.due("without a rule", Check.desk(six).groups(), 3);
        DesignDesk again = Check.desk(six + "rule dark=6 and age=3 or dark=3 and age=2;");
        Check.due("joined", again.groups(), 4);
        Check.due("asked again", again.groups(), 4);
        Check.due("late joint", Check.desk(six + "rule dark=6 and age=5 or dark=6 and age=2 or dark=5 and age=1;")
                .groups(), 3);
    }
}
