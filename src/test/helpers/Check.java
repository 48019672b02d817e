import java.util.NoSuchElementException;
import java.util.function.LongSupplier;

/** Prints every answer that is not the one due, and ends the test. */
final class Check {
    private static int wrong = 0;
    private static int asked = 0;

    private Check() {
    }

    static void due(String call, long got, long want) {
        asked++;
        if (got != want) {
            wrong++;
            System.out.println(call + " answered " + got + ", due is " + want);
        }
    }

    static void missing(String call, LongSupplier asking) {
        outcome(call, asking, "throws.NoSuchElementException");
    }

    static void number(String call, LongSupplier asking) {
        outcome(call, asking, "throws.IllegalArgumentException");
    }

    static void outcome(String call, LongSupplier asking, String want) {
        asked++;
        String got = outcomeOf(asking);
        if (!got.equals(want)) {
            wrong++;
            System.out.println(call + " answered " + got + ", due is " + want);
        }
    }

    static String outcomeOf(LongSupplier asking) {
        try {
            return Long.toString(asking.getAsLong());
        } catch (NoSuchElementException e) {
            return "throws.NoSuchElementException";
        } catch (IllegalArgumentException e) {
            return "throws." + e.getClass().getSimpleName();
        } catch (RuntimeException e) {
            return "throws." + e.getClass().getSimpleName();
        }
    }

    /** Feeds a text, padded with zeros, and has its bytes read. */
    static int tell(DesignDesk desk, String text) {
        feed(desk, text);
        return desk.text(text.length());
    }

    static int feed(DesignDesk desk, String text) {
        int answer = desk.told(2);
        for (int at = 0; at < text.length(); at += 20) {
            answer = desk.feed(four(text, at), four(text, at + 4), four(text, at + 8), four(text, at + 12),
                    four(text, at + 16));
        }
        return answer;
    }

    static int four(String text, int at) {
        int number = 0;
        for (int i = at; i < at + 4; i++) {
            number = number << 8 | (i < text.length() ? text.charAt(i) & 255 : 0);
        }
        return number;
    }

    static DesignDesk desk(String text) {
        DesignDesk desk = new DesignDesk();
        int answer = tell(desk, text);
        if (answer < 0) {
            wrong++;
            System.out.println("'" + text + "' answered " + answer + " at " + desk.fault());
        }
        return desk;
    }

    static void end() {
        System.out.println(asked + " answers, " + wrong + " of them not as due");
        if (wrong != 0) {
            System.exit(1);
        }
    }
}
