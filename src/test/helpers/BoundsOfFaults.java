/** Terms 1: which FAULT of a TEXT is told, and at which byte. */
final class BoundsOfFaults {
    private static final String PART = "Terms 1";

    private BoundsOfFaults() {
    }

    static void run() {
        leastByte();
        firstInList();
        endsTooEarly();
        everyByte();
        signTooMany();
        rowTooMany();
        rowTooShort();
        secondRule();
        wrongNumber();
        seventhDesign();
        tooDeep();
    }

    private static void leastByte() {
        Check.by(PART, "FAULTS; of several the one whose first byte is least,");
        Check.bad("design 10000 x;", 2, 7);
        Check.bad("design x 10000;", 1, 7);
        Check.bad("rule 10000=(((((1)))));", 2, 5);
        Check.bad("rule (((((10000)))))=1;", 4, 9);
        Check.bad("rule ((((10000(=1;", 2, 9);
        Check.bad(Texts.designs(6) + "design 10000 x;", 3, 66);
        Check.bad(Texts.designs(5) + "design 10000 #;design 1 #;", 2, 62);
        Check.bad(Texts.designs(6) + "rule (((((1)))))=1;design 1 #;", 4, 75);
        Check.bad("rule 1=1;rule (((((1)))))=1;", 1, 9);
    }

    private static void firstInList() {
        Check.by(PART, "of one byte the first in this list:");
        // what can't stand there, though it is also a number that is none such
        Check.bad("10000", 1, 0);
        Check.bad("rule 1 10000=1;", 1, 7);
        Check.bad("design 1 10000;", 1, 9);
        // .. or a seventh design
        Check.bad(Texts.designs(6) + "rule design", 1, 71);
        Check.bad(Texts.designs(6) + "rule 1=1 design 1 #;", 1, 75);
        // .. or too deep
        Check.bad("rule ((((not 1))))=1;", 1, 9);
        Check.bad("rule ((((1(2))))=1;", 1, 10);
        Check.bad("rule not not not not 1=not 1;", 1, 23);
        Check.bad("rule not not not not 1(", 1, 22);
    }

    private static void endsTooEarly() {
        Check.by(PART, "1 what can't stand there (at the length, if the text ends too early;");
        String text = "design 12 #o/t.;rule not (alike+1)*2<3 or dark=4 and age>5; ";
        int[] wholeAt = {0, 16, 59, 60};
        for (int length = 0; length <= text.length(); length++) {
            String cut = text.substring(0, length);
            boolean whole = length == wholeAt[0] || length == wholeAt[1] || length >= wholeAt[2];
            int wordFrom = length;
            while (wordFrom > 0 && Character.isLetter(cut.charAt(wordFrom - 1))) {
                wordFrom--;
            }
            String word = cut.substring(wordFrom);
            boolean cutWord = length > 16 && !word.isEmpty()
                    && !word.matches("rule|not|alike|or|dark|and|age");
            if (whole) {
                Check.good(cut, length == 0 ? 0 : 1);
            } else if (cutWord || length > 0 && length < 6) {
                // a word cut short is another word, and that one can't stand there
                Check.bad(cut, 1, wordFrom);
            } else {
                Check.bad(cut, 1, length);
            }
        }
        Check.bad("design 1 #    ", 1, 14);
        Check.bad("rule 1=1    ", 1, 12);
        Check.bad("design 1 #    x", 1, 14);
    }

    /** Each of the 256 bytes at each kind of place: the signs that can stand there, and no other. */
    private static void everyByte() {
        byteStands("", "", " ");
        byteStands("design", "1 #;", " 0123456789");
        byteStands("design 1", "#;", " 0123456789.#ot");
        byteStands("design 1 #", ";", " .#ot");
        byteStands("design 1 #", "#;", " .#ot/");
        byteStands("design 1 #", "", ";");
        byteStands("design 1 #;", "", " ");
        byteStands("rule ", "1=1;", " 0123456789");
        byteStands("rule 1", "1=1;", "0123456789+-*");
        byteStands("rule 1", "1;", "<=>");
        byteStands("rule (1", "=1;", ")");
        byteStands("rule 1=1", ";", " 0123456789");
        byteStands("rule 1=1", "", ";");
    }

    private static void byteStands(String ahead, String behind, String signs) {
        for (char sign = 0; sign < 256; sign++) {
            DesignDesk desk = new DesignDesk();
            int answer = Check.tell(desk, ahead + sign + behind);
            String call = "byte " + (int) sign + " between '" + ahead + "' and '" + behind + "' is good";
            Check.due(call, answer >= 0 ? 1 : 0, signs.indexOf(sign) >= 0 ? 1 : 0);
            Check.due(call + ", no place", desk.fault() < 0 ? 1 : 0, signs.indexOf(sign) >= 0 ? 1 : 0);
        }
    }

    private static void signTooMany() {
        Check.by(PART, "a sign more than the first ROW has, an eleventh sign of that;");
        Check.good("design 1 ##/##;", 1);
        Check.bad("design 1 ##/###;", 1, 14);
        Check.bad("design 1 ##/## #;", 1, 15);
        Check.bad("design 1 ##/##/###;", 1, 17);
        Check.good("design 1 " + "#".repeat(10) + ";", 1);
        Check.bad("design 1 " + "#".repeat(11) + ";", 1, 19);
        Check.bad("design 1 " + "#".repeat(10) + " .;", 1, 20);
        Check.bad("design 1 " + "#".repeat(10) + "/" + "#".repeat(11) + ";", 1, 30);
    }

    private static void rowTooMany() {
        Check.by(PART, "a \"/\" behind the tenth ROW;");
        Check.good("design 1 " + Texts.grid('#', 2, 9) + ";", 1);
        Check.good("design 1 " + Texts.grid('#', 2, 10) + ";", 1);
        Check.bad("design 1 " + Texts.grid('#', 2, 10) + "/;", 1, 38);
        Check.bad("design 1 " + Texts.grid('#', 2, 10) + "/", 1, 38);
        Check.bad("design 1 " + Texts.grid('#', 2, 11) + ";", 1, 38);
        Check.bad("design 1 " + Texts.grid('#', 2, 10) + "  /##;", 1, 40);
    }

    private static void rowTooShort() {
        Check.by(PART, "\";\" or \"/\" ahead of the last sign of a ROW;");
        Check.good("design 1 #;", 1);
        Check.bad("design 1 ;", 1, 9);
        Check.bad("design 1 /;", 1, 9);
        Check.good("design 1 ###/###;", 1);
        Check.bad("design 1 ###/##;", 1, 15);
        Check.bad("design 1 ###/##/###;", 1, 15);
        Check.bad("design 1 ###/;", 1, 13);
        Check.bad("design 1 ###//###;", 1, 13);
        Check.bad("design 1 ###/###/##  ;", 1, 21);
    }

    private static void secondRule() {
        Check.by(PART, "a second \"rule\", by its word);");
        Check.good("rule 1=1;", 0);
        Check.bad("rule 1=1;rule", 1, 9);
        Check.bad("rule 1=1;  rule 2=2;", 1, 11);
        Check.bad("rule 1=1;design 1 #;rule 10000=1;", 1, 20);
        Check.bad("rule 1=2;rule 1=2;", 1, 9);
    }

    private static void wrongNumber() {
        Check.by(PART, "2 a number that is none such;");
        Check.good("design 9999 #;rule 9999=9999;", 1);
        Check.bad("design 10000 #;", 2, 7);
        Check.bad("design   10000", 2, 9);
        Check.bad("design 99999999999999999999999999999999999999999 #;", 2, 7);
        Check.bad("rule 10000=1;", 2, 5);
        Check.bad("rule 1=1+2*(10000", 2, 12);
    }

    private static void seventhDesign() {
        Check.by(PART, "3 a seventh \"design\" (by its word);");
        Check.good(Texts.designs(6), 6);
        Check.bad(Texts.designs(7), 3, 66);
        Check.bad(Texts.designs(6) + "   design", 3, 69);
        Check.bad(Texts.designs(6) + "designs", 1, 66);
        Check.bad(Texts.designs(6) + "rule 1=1;design 7 #;", 3, 75);
        Check.good(Texts.designs(6) + "rule 1=1;", 6);
    }

    private static void tooDeep() {
        Check.by(PART, "4 a \"(\" or a \"not\" within four others of both (a \"not\" till its D ends).");
        for (int nots = 0; nots <= 4; nots++) {
            String deep = "not ".repeat(nots) + "(".repeat(4 - nots) + "1" + ")".repeat(4 - nots);
            int at = 5 + 4 * nots + 4 - nots;
            Check.good("rule " + deep + "=1;", 0);
            Check.bad("rule " + "not ".repeat(nots) + "(".repeat(5 - nots) + "1" + ")".repeat(5 - nots) + "=1;", 4, at);
            // brackets end ahead of the sign of a comparison, each "not" goes on behind it
            Check.good("rule " + deep + "=" + "(".repeat(4 - nots) + "1" + ")".repeat(4 - nots) + ";", 0);
            String behind = "rule " + deep + "=" + "(".repeat(4 - nots);
            Check.bad(behind + "(1);", 4, behind.length());
            // and none goes on behind "and", "or"
            Check.good("rule " + deep + "=1 and " + deep + "=1 or " + deep + "=1;", 0);
            String third = "rule " + deep + "=1 and " + deep + "=1 or " + "not ".repeat(4);
            Check.bad(third + "not 1=1;", 4, third.length());
            Check.good(third + "1=1;", 0);
        }
        Check.bad("rule not not not not not", 4, 21);
        Check.bad("rule (((((", 4, 9);
        Check.good("rule (1)*(1)*(1)*(1)*(1)*(1)=((1)+(1)+(1));", 0);
        Check.good("rule ((((1)+(1))+(1))+(1))+(1)=1;", 0);
    }
}
