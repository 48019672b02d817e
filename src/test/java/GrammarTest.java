/** Promise 3 and the terms of a TEXT: what is read, and which FAULT stands where. */
public final class GrammarTest {
    private static final DesignDesk DESK = new DesignDesk();

    public static void main(String[] args) {
        goodTexts();
        parts();
        rows();
        formulas();
        numbers();
        depths();
        Check.end();
    }

    private static void good(String text, int designs) {
        Check.due("'" + text + "'", Check.tell(DESK, text), designs);
        Check.due("place of '" + text + "'", DESK.fault(), -1);
    }

    private static void bad(String text, int kind, int place) {
        Check.due("'" + text + "'", Check.tell(DESK, text), kind - 10);
        Check.due("place of '" + text + "'", DESK.fault(), place);
    }

    private static void goodTexts() {
        good("", 0);
        good("   ", 0);
        good("design 1 #;", 1);
        good("design1#;", 1);
        good("design1o;", 1);
        good("design1t;", 1);
        good("  design  1  #  .  /  o  t  ;  ", 1);
        good("design 1 ##########;", 1);
        good("design 1 #/#/#/#/#/#/#/#/#/#;", 1);
        good("design 0 #;design 9999 #;", 2);
        good("rule 1=1;design 1 #;", 1);
        good("design 1 #;rule 1=1;design 1 #;", 2);
        good("rule1=1and2=2or not3=3;", 0);
        good("rule alike<freedom and prior>dark or age=0;", 0);
        good("rule ( 1 + 2 ) * ( 3 - 4 ) > ( age ) ;", 0);
    }

    private static void parts() {
        bad("x", 1, 0);
        bad("  ;", 1, 2);
        bad("desig 1 #;", 1, 0);
        bad("designo 1 #;", 1, 0);
        bad("Design 1 #;", 1, 0);
        bad("design", 1, 6);
        bad("design  ", 1, 8);
        bad("design 1", 1, 8);
        bad("design 1 #", 1, 10);
        bad("design 1 #  ", 1, 12);
        bad("design 1 #;;", 1, 11);
        bad("design 1 #; 5", 1, 12);
        bad("design 1 #;ruler 1=1;", 1, 11);
        bad("rule", 1, 4);
        bad("rule;", 1, 4);
        bad("rulealike>1;", 1, 0);
        bad("rule 1=1;  rule", 1, 11);
        bad("rule 1=1;design 1 #;rule 2=2;", 1, 20);
        bad("design -1 #;", 1, 7);
        bad("\tdesign 1 #;", 1, 0);
        String six = "design 1 #;design 1 #;design 1 #;design 1 #;design 1 #;design 1 #;";
        good(six, 6);
        bad(six + " design 1 #;", 3, 67);
        bad(six + "design", 3, 66);
        bad(six + "designs", 1, 66);
        good(six + "rule 1=1;", 6);
        bad("design 1 x;" + six + "design 1 #;", 1, 9);
    }

    private static void rows() {
        bad("design 1 ;", 1, 9);
        bad("design 1 /#;", 1, 9);
        bad("design 1 ##/#/##;", 1, 13);
        bad("design 1 ##/#;", 1, 13);
        bad("design 1 ##/;", 1, 12);
        bad("design 1 #/ # #;", 1, 14);
        bad("design 1 ###########;", 1, 19);
        bad("design 1 ##########/###########;", 1, 30);
        bad("design 1 #/#/#/#/#/#/#/#/#/#/#;", 1, 28);
        bad("design 1 ##/##/##/##/##/##/##/##/##/#/", 1, 37);
        bad("design 1 #x;", 1, 10);
        bad("design 1 #1;", 1, 10);
        bad("design 1 2 #;", 1, 9);
        bad("design 1 #//#;", 1, 11);
        bad("design 1 O;", 1, 9);
        bad("design 1 #,#;", 1, 10);
        bad("design 1 #\n;", 1, 10);
    }

    private static void formulas() {
        bad("rule alike;", 1, 10);
        bad("rule alike", 1, 10);
        bad("rule 1=", 1, 7);
        bad("rule 1=;", 1, 7);
        bad("rule 1==1;", 1, 7);
        bad("rule 1=1=1;", 1, 8);
        bad("rule 1<2>3;", 1, 8);
        bad("rule (1=1);", 1, 7);
        bad("rule (1;", 1, 7);
        bad("rule (1", 1, 7);
        bad("rule 1)=1;", 1, 6);
        bad("rule ()=1;", 1, 6);
        bad("rule 1 2=1;", 1, 7);
        bad("rule -1=1;", 1, 5);
        bad("rule 1*=1;", 1, 7);
        bad("rule 1+*1=1;", 1, 7);
        bad("rule alikes=1;", 1, 5);
        bad("rule ali=1;", 1, 5);
        bad("rule al ike=1;", 1, 5);
        bad("rule 1=1 and;", 1, 12);
        bad("rule 1=1 and or 1=1;", 1, 13);
        bad("rule 1=1 andnot 1=1;", 1, 9);
        bad("rule 1 and 1=1;", 1, 7);
        bad("rule 1=1 andz 1=1;", 1, 9);
        bad("rule 1=1 anda 1=1;", 1, 9);
        bad("rulez 1=1;", 1, 0);
        bad("rule notz 1=1;", 1, 5);
        bad("rule age{1=1;", 1, 8);
        bad("rule age`1=1;", 1, 8);
        bad("rule 1=(1 and 1=1);", 1, 10);
        bad("rule 1=1 xor 1=1;", 1, 9);
        bad("rule not;", 1, 8);
        bad("rule not", 1, 8);
        bad("rule 1=not 1;", 1, 7);
        bad("rule (not 1)=1;", 1, 6);
        bad("rule 1+not 1=1;", 1, 7);
        bad("rule 1=1 not 1=1;", 1, 9);
        bad("rule and 1=1;", 1, 5);
        bad("rule rule", 1, 5);
        bad("rule 1=1 design", 1, 9);
        bad("rule 1/1=1;", 1, 6);
        bad("rule 1=1", 1, 8);
        bad("rule 1=1   ", 1, 11);
        bad("rule #=1;", 1, 5);
    }

    private static void numbers() {
        bad("design 10000 #;", 2, 7);
        bad("design 99999999999999999999 #;", 2, 7);
        bad("design 4294967297 #;", 2, 7);
        good("design 0009999 #;", 1);
        Check.due("day told with zeros", DESK.of(0, 0), 9999);
        good("design 00000000000000000000000000005 #;", 1);
        Check.due("day told with many zeros", DESK.of(0, 0), 5);
        bad("rule 10000=1;", 2, 5);
        bad("rule 1= 10000", 2, 8);
        bad("rule 1 10000=1;", 1, 7);
        bad("design 1 10000;", 1, 9);
        good("rule 9999>0;", 0);
        bad("design 10000", 2, 7);
    }

    private static void depths() {
        good("rule ((((1))))=1;", 0);
        bad("rule (((((1)))))=1;", 4, 9);
        bad("rule (((((", 4, 9);
        good("rule not not not not 1=1;", 0);
        bad("rule not not not not not 1=1;", 4, 21);
        bad("rule not not not not (1)=1;", 4, 21);
        bad("rule not not ((1))=(((1)));", 4, 21);
        good("rule not not ((1))=((1));", 0);
        good("rule not not not (1)=(1)+(1) and not not not not 1=1 or ((((1))))=1;", 0);
        bad("rule not (1)=1 or (((((1)))))=1;", 4, 22);
        good("rule (1)+(1)+(1)+(1)+(1)+(1)=1;", 0);
        good("rule not 1=1 and not 1=1 and not 1=1 and not 1=1 and not 1=1;", 0);
        bad("rule ((((not", 1, 9);
        bad("rule ((((1(", 1, 10);
        good("rule not not not not 1+2*3=4*5+6 or not not 1*((2+3)*4-5)<6;", 0);
    }
}
