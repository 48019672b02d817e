/** Promise 3 and the terms of a TEXT: what is read, and which FAULT stands where. */
public final class GrammarTest {
    public static void main(String[] args) {
        goodTexts();
        parts();
        rows();
        formulas();
        numbers();
        depths();
        Check.end();
    }

    private static void goodTexts() {
        Check.good("", 0);
        Check.good("   ", 0);
        Check.good("design 1 #;", 1);
        Check.good("design1#;", 1);
        Check.good("design1o;", 1);
        Check.good("design1t;", 1);
        Check.good("  design  1  #  .  /  o  t  ;  ", 1);
        Check.good("design 1 ##########;", 1);
        Check.good("design 1 #/#/#/#/#/#/#/#/#/#;", 1);
        Check.good("design 0 #;design 9999 #;", 2);
        Check.good("rule 1=1;design 1 #;", 1);
        Check.good("design 1 #;rule 1=1;design 1 #;", 2);
        Check.good("rule1=1and2=2or not3=3;", 0);
        Check.good("rule alike<freedom and prior>dark or age=0;", 0);
        Check.good("rule ( 1 + 2 ) * ( 3 - 4 ) > ( age ) ;", 0);
    }

    private static void parts() {
        Check.bad("x", 1, 0);
        Check.bad("  ;", 1, 2);
        Check.bad("desig 1 #;", 1, 0);
        Check.bad("designo 1 #;", 1, 0);
        Check.bad("Design 1 #;", 1, 0);
        Check.bad("design", 1, 6);
        Check.bad("design  ", 1, 8);
        Check.bad("design 1", 1, 8);
        Check.bad("design 1 #", 1, 10);
        Check.bad("design 1 #  ", 1, 12);
        Check.bad("design 1 #;;", 1, 11);
        Check.bad("design 1 #; 5", 1, 12);
        Check.bad("design 1 #;ruler 1=1;", 1, 11);
        Check.bad("rule", 1, 4);
        Check.bad("rule;", 1, 4);
        Check.bad("rulealike>1;", 1, 0);
        Check.bad("rule 1=1;  rule", 1, 11);
        Check.bad("rule 1=1;design 1 #;rule 2=2;", 1, 20);
        Check.bad("design -1 #;", 1, 7);
        Check.bad("\tdesign 1 #;", 1, 0);
        String six = "design 1 #;design 1 #;design 1 #;design 1 #;design 1 #;design 1 #;";
        Check.good(six, 6);
        Check.bad(six + " design 1 #;", 3, 67);
        Check.bad(six + "design", 3, 66);
        Check.bad(six + "designs", 1, 66);
        Check.good(six + "rule 1=1;", 6);
        Check.bad("design 1 x;" + six + "design 1 #;", 1, 9);
    }

    private static void rows() {
        Check.bad("design 1 ;", 1, 9);
        Check.bad("design 1 /#;", 1, 9);
        Check.bad("design 1 ##/#/##;", 1, 13);
        Check.bad("design 1 ##/#;", 1, 13);
        Check.bad("design 1 ##/;", 1, 12);
        Check.bad("design 1 #/ # #;", 1, 14);
        Check.bad("design 1 ###########;", 1, 19);
        Check.bad("design 1 ##########/###########;", 1, 30);
        Check.bad("design 1 #/#/#/#/#/#/#/#/#/#/#;", 1, 28);
        Check.bad("design 1 ##/##/##/##/##/##/##/##/##/#/", 1, 37);
        Check.bad("design 1 #x;", 1, 10);
        Check.bad("design 1 #1;", 1, 10);
        Check.bad("design 1 2 #;", 1, 9);
        Check.bad("design 1 #//#;", 1, 11);
        Check.bad("design 1 O;", 1, 9);
        Check.bad("design 1 #,#;", 1, 10);
        Check.bad("design 1 #\n;", 1, 10);
    }

    private static void formulas() {
        Check.bad("rule alike;", 1, 10);
        Check.bad("rule alike", 1, 10);
        Check.bad("rule 1=", 1, 7);
        Check.bad("rule 1=;", 1, 7);
        Check.bad("rule 1==1;", 1, 7);
        Check.bad("rule 1=1=1;", 1, 8);
        Check.bad("rule 1<2>3;", 1, 8);
        Check.bad("rule (1=1);", 1, 7);
        Check.bad("rule (1;", 1, 7);
        Check.bad("rule (1", 1, 7);
        Check.bad("rule 1)=1;", 1, 6);
        Check.bad("rule ()=1;", 1, 6);
        Check.bad("rule 1 2=1;", 1, 7);
        Check.bad("rule -1=1;", 1, 5);
        Check.bad("rule 1*=1;", 1, 7);
        Check.bad("rule 1+*1=1;", 1, 7);
        Check.bad("rule alikes=1;", 1, 5);
        Check.bad("rule ali=1;", 1, 5);
        Check.bad("rule al ike=1;", 1, 5);
        Check.bad("rule 1=1 and;", 1, 12);
        Check.bad("rule 1=1 and or 1=1;", 1, 13);
        Check.bad("rule 1=1 andnot 1=1;", 1, 9);
        Check.bad("rule 1 and 1=1;", 1, 7);
        Check.bad("rule 1=1 andz 1=1;", 1, 9);
        Check.bad("rule 1=1 anda 1=1;", 1, 9);
        Check.bad("rulez 1=1;", 1, 0);
        Check.bad("rule notz 1=1;", 1, 5);
        Check.bad("rule age{1=1;", 1, 8);
        Check.bad("rule age`1=1;", 1, 8);
        Check.bad("rule 1=(1 and 1=1);", 1, 10);
        Check.bad("rule 1=1 xor 1=1;", 1, 9);
        Check.bad("rule not;", 1, 8);
        Check.bad("rule not", 1, 8);
        Check.bad("rule 1=not 1;", 1, 7);
        Check.bad("rule (not 1)=1;", 1, 6);
        Check.bad("rule 1+not 1=1;", 1, 7);
        Check.bad("rule 1=1 not 1=1;", 1, 9);
        Check.bad("rule and 1=1;", 1, 5);
        Check.bad("rule rule", 1, 5);
        Check.bad("rule 1=1 design", 1, 9);
        Check.bad("rule 1/1=1;", 1, 6);
        Check.bad("rule 1=1", 1, 8);
        Check.bad("rule 1=1   ", 1, 11);
        Check.bad("rule #=1;", 1, 5);
    }

    private static void numbers() {
        Check.bad("design 10000 #;", 2, 7);
        Check.bad("design 99999999999999999999 #;", 2, 7);
        Check.bad("design 4294967297 #;", 2, 7);
        Check.due("day told with zeros", Check.good("design 0009999 #;", 1).of(0, 0), 9999);
        Check.due("day told with many zeros",
                Check.good("design 00000000000000000000000000005 #;", 1).of(0, 0), 5);
        Check.bad("rule 10000=1;", 2, 5);
        Check.bad("rule 1= 10000", 2, 8);
        Check.bad("rule 1 10000=1;", 1, 7);
        Check.bad("design 1 10000;", 1, 9);
        Check.good("rule 9999>0;", 0);
        Check.bad("design 10000", 2, 7);
    }

    private static void depths() {
        Check.good("rule ((((1))))=1;", 0);
        Check.bad("rule (((((1)))))=1;", 4, 9);
        Check.bad("rule (((((", 4, 9);
        Check.good("rule not not not not 1=1;", 0);
        Check.bad("rule not not not not not 1=1;", 4, 21);
        Check.bad("rule not not not not (1)=1;", 4, 21);
        Check.bad("rule not not ((1))=(((1)));", 4, 21);
        Check.good("rule not not ((1))=((1));", 0);
        Check.good("rule not not not (1)=(1)+(1) and not not not not 1=1 or ((((1))))=1;", 0);
        Check.bad("rule not (1)=1 or (((((1)))))=1;", 4, 22);
        Check.good("rule (1)+(1)+(1)+(1)+(1)+(1)=1;", 0);
        Check.good("rule not 1=1 and not 1=1 and not 1=1 and not 1=1 and not 1=1;", 0);
        Check.bad("rule ((((not", 1, 9);
        Check.bad("rule ((((1(", 1, 10);
        Check.good("rule not not not not 1+2*3=4*5+6 or not not 1*((2+3)*4-5)<6;", 0);
    }
}
