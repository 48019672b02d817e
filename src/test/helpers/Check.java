import java.util.NoSuchElementException;
import java.util.function.LongSupplier;

/** Prints every answer that is not the one due, and ends the test. */
final class Check {
    private static int wrong = 0;
    private static int asked = 0;
    private static String sentence = "";

    private Check() {
    }

    /** Names the part and the sentence of the document that the checks from here on are of. */
    static void by(String part, String words) {
        sentence = part + " \"" + words + "\": ";
        Doc.cite(part, words);
    }

    static void byNone() {
        sentence = "";
    }

    static void due(String call, long got, long want) {
        same(call, Long.toString(got), Long.toString(want));
    }

    static void missing(String call, LongSupplier asking) {
        outcome(call, asking, "throws.NoSuchElementException");
    }

    static void number(String call, LongSupplier asking) {
        outcome(call, asking, "throws.IllegalArgumentException");
    }

    static void outcome(String call, LongSupplier asking, String want) {
        same(call, outcomeOf(asking), want);
    }

    static void same(String call, String got, String want) {
        asked++;
        if (!got.equals(want)) {
            wrong(call + " answered " + got + ", due is " + want);
        }
    }

    static void wrong(String what) {
        wrong++;
        System.out.println(sentence + what);
    }

    static String outcomeOf(LongSupplier asking) {
        try {
            return Long.toString(asking.getAsLong());
        } catch (RuntimeException e) {
            Class<?> kind = e.getClass();
            boolean due = kind == NoSuchElementException.class || kind == IllegalArgumentException.class;
            return "throws." + (due ? kind.getSimpleName() : kind.getName());
        }
    }

    /** A new object reads a text without a FAULT. */
    static DesignDesk good(String text, int designs) {
        DesignDesk desk = new DesignDesk();
        due("'" + text + "'", tell(desk, text), designs);
        due("place in '" + text + "'", desk.fault(), -1);
        return desk;
    }

    /** A new object finds a FAULT in a text, and tells its place. */
    static void bad(String text, int fault, int place) {
        DesignDesk desk = new DesignDesk();
        due("'" + text + "'", tell(desk, text), fault - 10);
        due("place in '" + text + "'", desk.fault(), place);
        due("designs behind '" + text + "'", desk.told(0), 0);
    }

    /** Feeds a text, padded with zeros, and has its bytes read. */
    static int tell(DesignDesk desk, String text) {
        feed(desk, text);
        return desk.text(text.length());
    }

    static int feed(DesignDesk desk, String text) {
        int answer = desk.told(2);
        for (int at = 0; at < text.length(); at += 20) {
            answer = desk.feed(four(text, at), four(text, at + 4), four(text, at + 8), four(text, at + 12),
                    four(text, at + 16));
        }
        return answer;
    }

    static int four(String text, int at) {
        int number = 0;
        for (int i = at; i < at + 4; i++) {
            number = number << 8 | (i < text.length() ? text.charAt(i) & 255 : 0);
        }
        return number;
    }

    static DesignDesk desk(String text) {
        DesignDesk desk = new DesignDesk();
        int answer = tell(desk, text);
        if (answer < 0) {
            wrong("'" + text + "' answered " + answer + " at " + desk.fault());
        }
        return desk;
    }

    /** All that can be asked without a change, in one line, to tell if anything changed. */
    static String stateOf(DesignDesk desk) {
        StringBuilder state = new StringBuilder();
        state.append(desk.print()).append(' ').append(desk.fault()).append(' ').append(desk.groups());
        int designs = desk.told(0);
        for (int what = 0; what < 4; what++) {
            state.append(' ').append(desk.told(what));
        }
        for (int a = 0; a < designs; a++) {
            state.append(" | ").append(desk.of(a, 1)).append(' ').append(desk.of(a, 2)).append(' ')
                    .append(desk.nearest(a)).append(' ').append(desk.prior(a, 2));
        }
        return state.toString();
    }

    static void end() {
        System.out.println(asked + " answers, " + wrong + " of them not as due");
        if (wrong != 0) {
            System.exit(1);
        }
    }
}
