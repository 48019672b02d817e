import java.util.Random;
import java.util.function.LongSupplier;

/** Runs of chance calls (from fixed seeds) on the class and on the plain model, side by side. */
public final class ModelTest {
    private static final String[] WORDS = {"alike", "freedom", "prior", "dark", "age"};
    private static final String NOISE = "design rule not and or alike age #.ot/;()<=>+-*0123456789 xZ\u0000\u00ff";

    private final Random random;
    private final DesignDesk desk = new DesignDesk();
    private final Model model = new Model();
    private final StringBuilder run = new StringBuilder();
    private boolean good = true;

    private ModelTest(long seed) {
        random = new Random(seed);
    }

    public static void main(String[] args) {
        int runs = args.length > 0 ? Integer.parseInt(args[0]) : 60;
        int first = args.length > 1 ? Integer.parseInt(args[1]) : 0;
        int bad = 0;
        for (int seed = first; seed < first + runs && bad < 5; seed++) {
            ModelTest test = new ModelTest(seed);
            test.runCalls(seed % 3 == 0 ? 10 : 4);
            if (!test.good) {
                bad++;
                System.out.println("seed " + seed + ":\n" + test.run);
            }
        }
        Check.due("runs that went apart", bad, 0);
        Check.end();
    }

    private void runCalls(int size) {
        int used = 0;
        // an object is used for at most 512 calls; a text takes at most 47
        for (int i = 0; i < 60 && good && used < 460; i++) {
            int kind = i == 0 ? 0 : random.nextInt(12);
            if (kind <= 1) {
                used += tell(size);
            } else if (kind <= 5) {
                act();
                used += 2;
            } else {
                used += ask();
            }
        }
    }

    private void compare(String call, LongSupplier first, LongSupplier second) {
        String got = Check.outcomeOf(first);
        String want = Check.outcomeOf(second);
        run.append("  ").append(call).append(" -> ").append(got).append('\n');
        if (!got.equals(want) && good) {
            good = false;
            run.append("  due was ").append(want).append('\n');
        }
    }

    private int tell(int size) {
        String text = random.nextInt(6) == 0 ? noise() : text(size);
        if (random.nextInt(3) == 0) {
            text = spoilt(text);
        }
        run.append("  '").append(text).append("'\n");
        int calls = 0;
        for (int at = 0; at < text.length(); at += 20) {
            int[] n = new int[5];
            for (int i = 0; i < 5; i++) {
                n[i] = Check.four(text, at + 4 * i);
            }
            compare("feed", () -> desk.feed(n[0], n[1], n[2], n[3], n[4]),
                    () -> model.feed(n[0], n[1], n[2], n[3], n[4]));
            calls++;
        }
        int length = random.nextInt(10) == 0 ? random.nextInt(text.length() + 40) - 10 : text.length();
        compare("text(" + length + ")", () -> desk.text(length), () -> model.text(length));
        compare("fault()", desk::fault, model::fault);
        compare("print()", desk::print, model::print);
        compare("told(0)", () -> desk.told(0), () -> model.told(0));
        compare("told(1)", () -> desk.told(1), () -> model.told(1));
        compare("told(2)", () -> desk.told(2), () -> model.told(2));
        compare("told(3)", () -> desk.told(3), () -> model.told(3));
        return calls + 7;
    }

    private void act() {
        int d = design();
        int x = within(10);
        int y = within(10);
        int sort = within(4);
        int day = random.nextInt(8) == 0 ? random.nextInt(3) * 9999 - 5000 : random.nextInt(9);
        switch (random.nextInt(7)) {
            case 0:
            case 1:
            case 2:
                compare("paint(" + d + "," + x + "," + y + "," + sort + ")", () -> desk.paint(d, x, y, sort),
                        () -> model.paint(d, x, y, sort));
                break;
            case 3:
                compare("day(" + d + "," + day + ")", () -> desk.day(d, day), () -> model.day(d, day));
                break;
            case 4:
                compare("drop(" + d + ")", () -> desk.drop(d), () -> model.drop(d));
                break;
            default:
                compare("undo()", desk::undo, model::undo);
                break;
        }
    }

    private int ask() {
        int a = design();
        int b = design();
        int what = within(13);
        int few = within(5);
        switch (random.nextInt(12)) {
            case 0:
            case 1:
            case 2:
                compare("of(" + a + "," + what + ")", () -> desk.of(a, what), () -> model.of(a, what));
                break;
            case 3:
                compare("cell(" + a + "," + few + "," + b + ")", () -> desk.cell(a, few, b),
                        () -> model.cell(a, few, b));
                break;
            case 4:
            case 5:
                askOver(a, b);
                break;
            case 6:
                compare("best(" + a + "," + b + "," + few + ")", () -> desk.best(a, b, few),
                        () -> model.best(a, b, few));
                break;
            case 7:
                int one = within(3);
                compare("prior(" + a + "," + one + ")", () -> desk.prior(a, one), () -> model.prior(a, one));
                break;
            case 8:
                compare("infringes(" + a + "," + b + ")", () -> desk.infringes(a, b), () -> model.infringes(a, b));
                break;
            case 9:
                compare("nearest(" + a + ")", () -> desk.nearest(a), () -> model.nearest(a));
                break;
            case 10:
                compare("groups()", desk::groups, model::groups);
                break;
            default:
                compare("print()", desk::print, model::print);
                compare("told", () -> desk.told(few), () -> model.told(few));
                compare("status", () -> desk.status(few), () -> model.status(few));
                break;
        }
        return 5;
    }

    private void askOver(int a, int b) {
        int turn = within(8);
        int dx = random.nextInt(random.nextInt(5) == 0 ? 44 : 10) - (random.nextInt(5) == 0 ? 22 : 5);
        int dy = random.nextInt(random.nextInt(5) == 0 ? 44 : 10) - (random.nextInt(5) == 0 ? 22 : 5);
        int what = within(2);
        compare("over(" + a + "," + b + "," + turn + "," + dx + "," + dy + "," + what + ")",
                () -> desk.over(a, b, turn, dx, dy, what), () -> model.over(a, b, turn, dx, dy, what));
    }

    private int design() {
        int there = desk.told(0);
        model.told(0);
        return random.nextInt(12) == 0 ? random.nextInt(9) - 1 : random.nextInt(Math.max(1, there));
    }

    private int within(int bound) {
        if (random.nextInt(40) == 0) {
            return random.nextInt(2) == 0 ? Integer.MIN_VALUE : Integer.MAX_VALUE;
        }
        return random.nextInt(15) == 0 ? random.nextInt(bound + 3) - 1 : random.nextInt(bound);
    }

    private String text(int size) {
        StringBuilder text = new StringBuilder();
        int designs = random.nextInt(7);
        int ruleAt = random.nextInt(2) == 0 ? random.nextInt(designs + 1) : -1;
        String former = null;
        for (int i = 0; i <= designs; i++) {
            if (i == ruleAt) {
                text.append(blank()).append("rule ").append(rule()).append(blank()).append(';');
            }
            if (i < designs) {
                // looks that come again make ties and whole likenesses
                String rows = former != null && random.nextInt(4) == 0 ? former : rows(size);
                former = rows;
                text.append(blank()).append("design").append(blank()).append(random.nextInt(9)).append(rows)
                        .append(';');
            }
        }
        return text.length() > 800 ? text.substring(0, 800) : text.toString();
    }

    private String rows(int size) {
        int columns = 1 + random.nextInt(size);
        int rows = 1 + random.nextInt(size);
        String signs = random.nextInt(2) == 0 ? "#." : "##..ot";
        StringBuilder text = new StringBuilder();
        for (int y = 0; y < rows; y++) {
            text.append(y == 0 ? "" : "/");
            for (int x = 0; x < columns; x++) {
                text.append(random.nextInt(20) == 0 ? " " : "").append(signs.charAt(random.nextInt(signs.length())));
            }
        }
        return text.toString();
    }

    private String rule() {
        StringBuilder text = new StringBuilder();
        int parts = 1 + random.nextInt(4);
        for (int i = 0; i < parts; i++) {
            text.append(i == 0 ? "" : random.nextBoolean() ? " or " : " and ");
            for (int n = random.nextInt(3); n > 0; n--) {
                text.append("not ");
            }
            text.append(sum(3)).append(blank()).append("<=>".charAt(random.nextInt(3))).append(sum(3));
        }
        return text.toString();
    }

    private String sum(int depth) {
        StringBuilder text = new StringBuilder();
        for (int i = random.nextInt(3); i >= 0; i--) {
            text.append(blank());
            int kind = random.nextInt(8);
            if (kind == 0 && depth > 0) {
                text.append('(').append(sum(depth - 1)).append(blank()).append(')');
            } else if (kind < 4) {
                int[] bounds = {3, 1000, 9999, 30};
                text.append(random.nextInt(1 + bounds[random.nextInt(4)]));
            } else {
                text.append(WORDS[random.nextInt(5)]);
            }
            text.append(blank()).append(i > 0 ? "+-*".charAt(random.nextInt(3)) : "");
        }
        return text.toString();
    }

    private String blank() {
        return random.nextInt(4) == 0 ? "  ".substring(random.nextInt(2)) : "";
    }

    private String spoilt(String text) {
        int at = random.nextInt(text.length() + 1);
        String sign = String.valueOf(NOISE.charAt(random.nextInt(NOISE.length())));
        switch (random.nextInt(3)) {
            case 0:
                return text.substring(0, at);
            case 1:
                return text.length() < 800 ? text.substring(0, at) + sign + text.substring(at) : text;
            default:
                return at < text.length() ? text.substring(0, at) + sign + text.substring(at + 1) : text;
        }
    }

    private String noise() {
        String[] tokens = {"design", "rule", "not", "and", "or", "alike", "(", ")", "<", "=", ">", "+", "*", "1",
            "9999", "10000", "00007", "#", ".", "o", "t", "/", ";", " ", "age", "dark", "99999999999999999999"};
        StringBuilder text = new StringBuilder(random.nextBoolean() ? "rule " : "design 1 ");
        for (int i = random.nextInt(30); i > 0; i--) {
            text.append(tokens[random.nextInt(tokens.length)]).append(blank());
        }
        return text.toString();
    }
}
