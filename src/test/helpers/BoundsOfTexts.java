/** Terms 1: what a TEXT is, and its FAULTS. */
final class BoundsOfTexts {
    private static final String PART = "Terms 1";

    private BoundsOfTexts() {
    }

    static void run() {
        lengths();
        nothingOrMore();
        rowsOfOneLength();
        ruleOnce();
        joints();
        comparisons();
        sums();
        units();
        numbersWhole();
        wordsWhole();
        blanks();
    }

    /** A text of so many bytes that ends with its last sign. */
    private static String padded(int bytes) {
        String text = Texts.designs(5);
        return text + " ".repeat(bytes - text.length() - 11) + "design 7 t;";
    }

    private static void lengths() {
        Check.by(PART, "A TEXT has up to 800 bytes:");
        Check.due("day of the last of 800 bytes", Check.good(padded(800), 6).of(5, 0), 7);
        Check.due("day of the last of 799 bytes", Check.good(padded(799), 6).of(5, 0), 7);
        DesignDesk desk = new DesignDesk();
        Check.feed(desk, padded(800));
        Check.due("799 of 800 bytes", desk.text(799), -9);
        Check.due("place", desk.fault(), 799);
        Check.good(" ".repeat(800), 0);
        Check.bad(" ".repeat(799) + "x", 1, 799);
        String rule = "rule 11" + "*1".repeat(395) + "=1;";
        Check.due("bytes of a rule", rule.length(), 800);
        Check.good(rule, 0);
        String more = padded(780);
        DesignDesk full = new DesignDesk();
        Check.feed(full, more + " ".repeat(20));
        Check.due("more than 800", full.feed(0, 0, 0, 0, 0), -1);
        Check.due("all 800", full.text(800), 6);
    }

    private static void nothingOrMore() {
        Check.by(PART, "{ \"design\" N ROW { \"/\" ROW } \";\" | \"rule\" B \";\" }: its DAY;");
        Check.due("no rule in nothing", Check.good("", 0).told(1), 0);
        Check.due("no rule with a design alone", Check.good("design 1 #;", 1).told(1), 0);
        Check.due("a rule alone", Check.good("rule 1=1;", 0).told(1), 1);
        Check.due("a rule ahead", Check.good("rule 1=1;design 1 #;", 1).told(1), 1);
        Check.due("a rule behind", Check.good("design 1 #;rule 1=1;", 1).told(1), 1);
        Check.due("a rule between", Check.good("design 1 #;rule 1=1;design 2 #;", 2).told(1), 1);
        Check.due("one row", Check.good("design 1 #;", 1).of(0, 2), 1);
        Check.due("two rows", Check.good("design 1 #/#;", 1).of(0, 2), 2);
        Check.bad("design #;", 1, 7);
        Check.bad("design 1;", 1, 8);
        Check.bad("design 1 #", 1, 10);
        Check.bad("design 1 #;;", 1, 11);
        Check.bad("rule;", 1, 4);
        Check.bad("rule 1=1", 1, 8);
        Check.bad(";", 1, 0);
        Check.bad("1 #;", 1, 0);
    }

    private static void rowsOfOneLength() {
        Check.by(PART, "a ROW: signs \".\" EMPTY, \"#\" SOLID, \"o\" DOTTED, \"t\" FORCED, "
                + "as many as of the first ROW;");
        DesignDesk desk = Check.good("design 1 .#ot/to#.;", 1);
        for (int x = 0; x < 4; x++) {
            Check.due("column " + x + " of row 0", desk.cell(0, x, 0), x);
            Check.due("column " + x + " of row 1", desk.cell(0, x, 1), 3 - x);
        }
        Check.bad("design 1 .#ot/to#;", 1, 17);
        Check.bad("design 1 .#ot/to#/", 1, 17);
        Check.bad("design 1 .#ot/to#.#;", 1, 18);
        Check.bad("design 1 .#ot/to#./;", 1, 19);
        Check.bad("design 1 .#ot/to#./.#ot#;", 1, 23);
        for (String sign : new String[] {"\"", "$", "-", "0", "n", "p", "s", "u", "O", "T", "\u00ff", "\u0000"}) {
            Check.bad("design 1 #" + sign + ";", 1, 10);
        }
    }

    private static void ruleOnce() {
        Check.by(PART, "\"rule\" once.");
        Check.due("none", Check.good("design 1 #;", 1).told(1), 0);
        Check.due("one", Check.good("rule 1=2;", 0).told(1), 1);
        Check.bad("rule 1=2;rule 1=2;", 1, 9);
    }

    private static void joints() {
        for (String joint : new String[] {"or", "and"}) {
            Check.by(PART, joint.equals("or") ? "B: C { \"or\" C }." : "C: D { \"and\" D }.");
            Check.good("rule 1=1;", 0);
            Check.good("rule 1=1 " + joint + " 2=2;", 0);
            StringBuilder many = new StringBuilder("rule 1=1");
            while (many.length() < 780) {
                many.append(joint).append(" 1=1");
            }
            Check.good(many + ";", 0);
            Check.bad("rule " + joint + " 1=1;", 1, 5);
            Check.bad("rule 1=1 " + joint + ";", 1, 9 + joint.length());
            Check.bad("rule 1=1 " + joint, 1, 9 + joint.length());
            Check.bad("rule 1=1 " + joint + " " + joint + " 1=1;", 1, 10 + joint.length());
            Check.bad("rule 1 " + joint + " 1=1;", 1, 7);
            Check.bad("rule 1=1 " + joint + " 1;", 1, 11 + joint.length());
            for (int i = 0; i < 4; i++) {
                int first = i / 2;
                int second = i % 2;
                int due = joint.equals("or") ? first | second : first & second;
                holds("1=" + first + " " + joint + " 1=" + second, due);
                holds("1=" + first + " " + joint + " 1=" + first + " " + joint + " 1=" + second, due);
            }
        }
        // "and" is within "or"
        holds("1=1 or 1=1 and 1=2", 1);
        holds("1=2 and 1=1 or 1=1", 1);
    }

    private static void holds(String rule, int due) {
        Check.due("rule " + rule, Check.desk(Texts.pair("#", "#") + "rule " + rule + ";").infringes(0, 1), due);
    }

    private static void comparisons() {
        Check.by(PART, "D: \"not\" D | E ( \"<\" | \"=\" | \">\" ) E.");
        for (String sign : new String[] {"<", "=", ">"}) {
            Check.good("rule 1" + sign + "1;", 0);
            Check.good("rule not 1" + sign + "1;", 0);
            Check.bad("rule " + sign + "1;", 1, 5);
            Check.bad("rule 1" + sign + ";", 1, 7);
            Check.bad("rule 1" + sign + "1" + sign + "1;", 1, 8);
        }
        int[][] due = {{1, 0, 0}, {0, 1, 0}, {0, 0, 1}};
        for (int n = 0; n < 3; n++) {
            for (int i = 0; i < 3; i++) {
                String comparison = n + "<=>".substring(i, i + 1) + "1";
                holds(comparison, due[i][n]);
                holds("not " + comparison, 1 - due[i][n]);
                holds("not not not not " + comparison, due[i][n]);
            }
        }
        holds("not 1=1 or 1=1", 1);
        holds("not 1=2 and 1=2", 0);
        for (String sign : new String[] {"!", "?", ";", "/", ":", "&", "|"}) {
            Check.bad("rule 1" + sign + "1;", 1, 6);
        }
        Check.bad("rule 1<=1;", 1, 7);
        Check.bad("rule 1;", 1, 6);
        Check.bad("rule not;", 1, 8);
        Check.bad("rule 1 not=1;", 1, 7);
        Check.bad("rule 1=not 1;", 1, 7);
    }

    private static void sums() {
        Check.by(PART, "E: T { ( \"+\" | \"-\" ) T }.");
        sign("+");
        sign("-");
        holds("9-3-2=4", 1);
        holds("9-3+2=8", 1);
        holds("9-(3+2)=4", 1);
        Check.by(PART, "T: U { \"*\" U }.");
        sign("*");
        holds("2+3*4=14", 1);
        holds("2*3+4=10", 1);
        holds("2*(3+4)=14", 1);
        holds("2*3*4=24", 1);
    }

    private static void sign(String sign) {
        Check.good("rule 1" + sign + "1=1" + sign + "1" + sign + "1;", 0);
        Check.bad("rule " + sign + "1=1;", 1, 5);
        Check.bad("rule 1" + sign + "=1;", 1, 7);
        Check.bad("rule 1" + sign + sign + "1=1;", 1, 7);
        Check.bad("rule 1=1" + sign + ";", 1, 9);
        Check.bad("rule 1=" + sign + "1;", 1, 7);
        Check.bad("rule (" + sign + "1)=1;", 1, 6);
        Check.bad("rule (1" + sign + ")=1;", 1, 8);
    }

    private static void units() {
        Check.by(PART, "U: N (0 to 9,999) | \"alike\" | \"freedom\" | \"prior\" | \"dark\" | \"age\" | "
                + "\"(\" E \")\".");
        Check.good("rule 0=0;", 0);
        Check.good("rule 9999=9999;", 0);
        Check.bad("rule 10000=0;", 2, 5);
        Check.bad("rule 0=10000;", 2, 7);
        for (String word : new String[] {"alike", "freedom", "prior", "dark", "age", "(1)", "(age)"}) {
            Check.good("rule " + word + "=" + word + ";", 0);
        }
        for (String word : new String[] {"rule", "design", "not", "and", "or", "x", "o", "t", "same"}) {
            Check.bad("rule 1=" + word + ";", 1, 7);
        }
        Check.bad("rule ()=1;", 1, 6);
        Check.bad("rule (1=1;", 1, 7);
        Check.bad("rule 1)=1;", 1, 6);
        Check.bad("rule 1=(1;", 1, 9);
        Check.bad("rule 1=1);", 1, 8);
        Check.bad("rule (1))=1;", 1, 8);
    }

    private static void numbersWhole() {
        Check.by(PART, "N: digits as many as stand there;");
        Check.due("four digits", Check.good("design 1234#;", 1).of(0, 0), 1234);
        Check.due("a zero ahead", Check.good("design 01234#;", 1).of(0, 0), 1234);
        Check.due("zeros alone", Check.good("design 000000000000#;", 1).of(0, 0), 0);
        Check.bad("design 12345#;", 2, 7);
        Check.bad("design 2147483648#;", 2, 7);
        Check.bad("design 4294967295#;", 2, 7);
        Check.bad("design 4294967296#;", 2, 7);
        Check.bad("design 18446744073709551616#;", 2, 7);
        Check.bad("design 12 34#;", 1, 10);
        Check.bad("rule 1 2=12;", 1, 7);
        Check.bad("rule 1=" + "0".repeat(700) + "10000;", 2, 7);
        Check.good("rule 1=" + "0".repeat(700) + "9999;", 0);
        // the bytes beside those of "0" and "9"
        Check.bad("design /#;", 1, 7);
        Check.bad("design :#;", 1, 7);
    }

    private static void wordsWhole() {
        Check.by(PART, "words: small letters as many as stand there (but in a ROW each sign stands for itself);");
        Check.good("design1#;rule1=1and1=1or1=1;", 1);
        Check.bad("designs 1 #;", 1, 0);
        Check.bad("desig 1 #;", 1, 0);
        Check.bad("desi gn 1 #;", 1, 0);
        Check.bad("designrule 1=1;", 1, 0);
        Check.bad("rulerule 1=1;", 1, 0);
        Check.bad("ruleage=1;", 1, 0);
        Check.bad("rulenot 1=1;", 1, 0);
        Check.bad("rule notage=1;", 1, 5);
        Check.bad("rule notnot 1=1;", 1, 5);
        Check.bad("rule agea=1;", 1, 5);
        Check.bad("rule agez=1;", 1, 5);
        Check.bad("rule ag=1;", 1, 5);
        Check.bad("rule age=ageor age=1;", 1, 9);
        Check.bad("rule 1=1orage=1;", 1, 8);
        Check.good("rule 1=1or age=age and 1=1;", 0);
        // the bytes beside those of "a" and "z", and great letters, are of no word
        Check.bad("rule age`=1;", 1, 8);
        Check.bad("rule age{=1;", 1, 8);
        Check.bad("rule ageA=1;", 1, 8);
        Check.bad("rule Age=1;", 1, 5);
        Check.due("signs of a row", Check.good("design 1otto;", 1).of(0, 1), 4);
        Check.due("a row like a word", Check.good("design 1 ot/to;", 1).of(0, 2), 2);
        Check.bad("design 1 or;", 1, 10);
        Check.bad("design 1 not;", 1, 9);
    }

    private static void blanks() {
        Check.by(PART, "blanks (32) may stand ahead of all words, numbers, signs (of a ROW, too), and at the end.");
        String[] tokens = {"design", "5", "o", "t", "/", ".", "#", ";", "rule", "not", "(", "1", "+", "alike", ")",
            "*", "2", "<", "3", "-", "age", "or", "4", "=", "5", "and", "dark", ">", "prior", ";"};
        for (String blank : new String[] {" ", "  ", "             "}) {
            StringBuilder text = new StringBuilder();
            for (String token : tokens) {
                text.append(blank).append(token);
            }
            DesignDesk desk = Check.good(text + blank, 1);
            Check.due("cells", desk.print(), 4680071L);
            Check.due("rule", desk.told(1), 1);
        }
        Check.good(" ", 0);
        for (char other : new char[] {31, 33, 9, 10, 13, 0, 160}) {
            Check.bad(other + "design 1 #;", 1, 0);
            Check.bad("design" + other + "1 #;", 1, 6);
            Check.bad("design 1" + other + "#;", 1, 8);
            Check.bad("design 1 #" + other + ";", 1, 10);
            Check.bad("design 1 #;" + other, 1, 11);
            Check.bad("rule 1" + other + "=1;", 1, 6);
        }
    }
}
