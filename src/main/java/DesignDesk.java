import java.util.Arrays;
import java.util.NoSuchElementException;

/** Registered designs laid over each other, as the document tells it. */
public final class DesignDesk {
    public static final int NONE = -1;

    private static final int MOST_DESIGNS = 6;
    private static final int MOST_SIDE = 10;
    private static final int MOST_BYTES = 800;
    private static final int MOST_NUMBER = 9999;
    private static final int MOST_SHIFT = 20;
    private static final int MOST_UNDOS = 8;
    private static final int TURNS = 8;

    private static final int SOLID = 1;
    private static final int DOTTED = 2;
    private static final int FORCED = 3;

    private static final int CANNOT_STAND = 1;
    private static final int NO_SUCH_NUMBER = 2;
    private static final int TOO_MANY_DESIGNS = 3;
    private static final int TOO_DEEP = 4;

    // Codes of a rule: numbers of 0 and more stand for themselves.
    private static final int ALIKE = -1;
    private static final int FREEDOM = -2;
    private static final int PRIOR = -3;
    private static final int DARK = -4;
    private static final int AGE = -5;
    private static final int FACTS = 5;
    private static final int OPEN = -10;
    private static final int OR = -11;
    private static final int AND = -12;
    private static final int NOT = -13;
    private static final int LESS = -14;
    private static final int EQUAL = -15;
    private static final int MORE = -16;
    private static final int PLUS = -17;
    private static final int MINUS = -18;
    private static final int TIMES = -19;

    private static final int MOST_OPEN = 4;
    private static final int MOST_WAITING = 32;
    private static final long HELD = 1000000L;
    private static final int ALIKE_WITHOUT_RULE = 700;

    private final int[] tape;
    private int tapeBytes;
    private int faultPlace;
    private int refusedMissing;
    private int refusedNumber;
    private Book book;
    private Book draft;
    private final History history;
    private final TextReader reader;
    private final Overlays overlays;
    private final Shapes shapes;
    private final int[] facts;
    private final long[] ruleStack;
    private final int[] group;

    public DesignDesk() {
        tape = new int[MOST_BYTES];
        tapeBytes = 0;
        faultPlace = NONE;
        refusedMissing = 0;
        refusedNumber = 0;
        book = new Book();
        draft = new Book();
        history = new History();
        reader = new TextReader();
        overlays = new Overlays();
        shapes = new Shapes();
        facts = new int[FACTS];
        ruleStack = new long[MOST_WAITING];
        group = new int[MOST_DESIGNS];
    }

    public int feed(int a, int b, int c, int d, int e) {
        if (tapeBytes + 20 > MOST_BYTES) {
            return NONE;
        }
        putBytes(a);
        putBytes(b);
        putBytes(c);
        putBytes(d);
        putBytes(e);
        return tapeBytes;
    }

    public int text(int n) throws IllegalArgumentException {
        needNumber(n, 0, tapeBytes);
        tapeBytes = 0;
        Scan scan = reader.readInto(draft, tape, n);
        faultPlace = scan.place;
        if (scan.failed()) {
            return scan.kind - 10;
        }
        history.keep(book);
        Book earlier = book;
        book = draft;
        draft = earlier;
        overlays.forgetAll();
        return book.count;
    }

    public int fault() {
        return faultPlace;
    }

    public int paint(int design, int x, int y, int sort)
            throws NoSuchElementException, IllegalArgumentException {
        needCell(design, x, y);
        needNumber(sort, 0, FORCED);
        history.keep(book);
        Design painted = book.designs[design];
        int earlier = painted.sortAt(x, y);
        painted.put(x, y, sort);
        overlays.forget(design);
        return earlier;
    }

    public int day(int design, int n) throws NoSuchElementException, IllegalArgumentException {
        needDesign(design);
        needNumber(n, 0, MOST_NUMBER);
        history.keep(book);
        Design changed = book.designs[design];
        int earlier = changed.day;
        changed.day = n;
        return earlier;
    }

    public int drop(int design) throws NoSuchElementException {
        needDesign(design);
        history.keep(book);
        book.remove(design);
        overlays.forgetAll();
        return book.count;
    }

    public int undo() {
        if (history.count == 0) {
            return NONE;
        }
        book = history.takeBack(book);
        overlays.forgetAll();
        return history.count;
    }

    public int told(int what) throws IllegalArgumentException {
        needNumber(what, 0, 3);
        switch (what) {
            case 0:
                return book.count;
            case 1:
                return book.rule != null ? 1 : 0;
            case 2:
                return tapeBytes;
            default:
                return history.count;
        }
    }

    public int of(int design, int what) throws NoSuchElementException, IllegalArgumentException {
        needDesign(design);
        needNumber(what, 0, 12);
        Design asked = book.designs[design];
        switch (what) {
            case 0:
                return asked.day;
            case 1:
                return asked.columns;
            case 2:
                return asked.rows;
            case 7:
                return shapes.edgeOf(asked);
            case 8:
                return shapes.partsOf(asked);
            case 9:
                return shapes.holesOf(asked);
            case 10:
                return shapes.looksOf(asked);
            case 11:
                return asked.freedom();
            case 12:
                overlays.learnFrom(book, design);
                return isNew(design) ? 1 : 0;
            default:
                return asked.countOfSort(what - 3);
        }
    }

    public int cell(int design, int x, int y) throws NoSuchElementException {
        needCell(design, x, y);
        return book.designs[design].sortAt(x, y);
    }

    public int over(int a, int b, int turn, int dx, int dy, int what)
            throws NoSuchElementException, IllegalArgumentException {
        needTwo(a, b);
        needNumber(turn, 0, TURNS - 1);
        needNumber(dx, -MOST_SHIFT, MOST_SHIFT);
        needNumber(dy, -MOST_SHIFT, MOST_SHIFT);
        needNumber(what, 0, 1);
        overlays.take(book.designs[a], book.designs[b]);
        overlays.turnTo(turn);
        overlays.lay(dx, dy);
        return what == 0 ? overlays.same : overlays.unlike;
    }

    public int best(int a, int b, int what) throws NoSuchElementException, IllegalArgumentException {
        needTwo(a, b);
        needNumber(what, 0, 4);
        overlays.learn(book, a, b);
        Best found = overlays.bestOf(a, b);
        switch (what) {
            case 0:
                return found.above();
            case 1:
                return found.below();
            case 2:
                return found.turn;
            case 3:
                return found.dx;
            default:
                return found.dy;
        }
    }

    public int prior(int a, int what) throws NoSuchElementException, IllegalArgumentException {
        needDesign(a);
        needNumber(what, 0, 2);
        overlays.learnFrom(book, a);
        int earlier = mostAlikeBefore(a);
        if (what == 2) {
            return earlier;
        }
        if (earlier == NONE) {
            return what;
        }
        Best found = overlays.bestOf(a, earlier);
        return what == 0 ? found.above() : found.below();
    }

    public int infringes(int a, int b) throws NoSuchElementException, IllegalArgumentException {
        needTwo(a, b);
        overlays.learnFrom(book, a);
        return isInfringed(a, b) ? 1 : 0;
    }

    public int nearest(int a) throws NoSuchElementException {
        needDesign(a);
        overlays.learnFrom(book, a);
        int found = NONE;
        for (int b = 0; b < book.count; b++) {
            if (b != a && isMoreAlike(a, b, found)) {
                found = b;
            }
        }
        return found;
    }

    public int groups() {
        for (int a = 0; a < book.count; a++) {
            overlays.learnFrom(book, a);
            group[a] = a;
        }
        int number = book.count;
        for (int a = 0; a < book.count; a++) {
            for (int b = a + 1; b < book.count; b++) {
                if (group[a] != group[b] && (isInfringed(a, b) || isInfringed(b, a))) {
                    joinGroups(group[a], group[b]);
                    number--;
                }
            }
        }
        return number;
    }

    public long print() {
        long sum = 0;
        for (int i = 0; i < book.count; i++) {
            Design design = book.designs[i];
            sum = 31 * sum + design.day;
            for (int y = 0; y < design.rows; y++) {
                for (int x = 0; x < design.columns; x++) {
                    sum = 31 * sum + design.sortAt(x, y);
                }
            }
        }
        return sum;
    }

    public int status(int what) {
        if (what == 0) {
            return refusedMissing;
        }
        return what == 1 ? refusedNumber : NONE;
    }

    private void putBytes(int number) {
        for (int shift = 24; shift >= 0; shift -= 8) {
            if (tapeBytes < tape.length) {
                tape[tapeBytes] = (number >>> shift) & 255;
                tapeBytes++;
            }
        }
    }

    private void needDesign(int design) {
        if (design < 0 || design >= book.count) {
            refusedMissing++;
            throw new NoSuchElementException("no such design");
        }
    }

    private void needCell(int design, int x, int y) {
        needDesign(design);
        if (!book.designs[design].hasCell(x, y)) {
            refusedMissing++;
            throw new NoSuchElementException("no such cell");
        }
    }

    private void needNumber(int number, int least, int most) {
        if (number < least || number > most) {
            refusedNumber++;
            throw new IllegalArgumentException("a number that is none such");
        }
    }

    private void needTwo(int a, int b) {
        needDesign(a);
        needDesign(b);
        if (a == b) {
            refusedNumber++;
            throw new IllegalArgumentException("a design with itself");
        }
    }

    private boolean isMoreAlike(int a, int b, int found) {
        return found == NONE
                || overlays.bestOf(a, b).isAbove(overlays.bestOf(a, found));
    }

    private int mostAlikeBefore(int a) {
        int found = NONE;
        for (int b = 0; b < book.count; b++) {
            if (book.designs[b].day < book.designs[a].day && isMoreAlike(a, b, found)) {
                found = b;
            }
        }
        return found;
    }

    private boolean isNew(int a) {
        int earlier = mostAlikeBefore(a);
        return earlier == NONE || !overlays.bestOf(a, earlier).isWhole();
    }

    private int priorThousandths(int a) {
        int earlier = mostAlikeBefore(a);
        return earlier == NONE ? 0 : overlays.bestOf(a, earlier).thousandths();
    }

    private boolean isInfringed(int a, int b) {
        int alike = overlays.bestOf(a, b).thousandths();
        Rule rule = book.rule;
        if (rule == null) {
            return alike > ALIKE_WITHOUT_RULE;
        }
        Design first = book.designs[a];
        Design second = book.designs[b];
        facts[-1 - ALIKE] = alike;
        facts[-1 - FREEDOM] = first.freedom();
        facts[-1 - PRIOR] = priorThousandths(a);
        facts[-1 - DARK] = second.countOfSort(SOLID) + second.countOfSort(FORCED);
        facts[-1 - AGE] = second.day - first.day;
        return rule.holds(facts, ruleStack);
    }

    private void joinGroups(int stays, int goes) {
        for (int i = 0; i < book.count; i++) {
            if (group[i] == goes) {
                group[i] = stays;
            }
        }
    }

    /**
     * One DESIGN. The two bits of a SORT are kept apart, a row of each in one number, so that
     * whole rows can be laid over each other: the low bit says DARK, the high one that the cell
     * is DOTTED or FORCED.
     */
    private static final class Design {
        int day;
        int columns;
        int rows;
        final int[] dark;
        final int[] aside;

        Design() {
            day = 0;
            columns = 0;
            rows = 0;
            dark = new int[MOST_SIDE];
            aside = new int[MOST_SIDE];
        }

        void begin(int newDay) {
            day = newDay;
            resize(0, 0);
        }

        void resize(int newColumns, int newRows) {
            columns = newColumns;
            rows = newRows;
            Arrays.fill(dark, 0);
            Arrays.fill(aside, 0);
        }

        void copyFrom(Design other) {
            day = other.day;
            columns = other.columns;
            rows = other.rows;
            System.arraycopy(other.dark, 0, dark, 0, MOST_SIDE);
            System.arraycopy(other.aside, 0, aside, 0, MOST_SIDE);
        }

        boolean hasCell(int x, int y) {
            return x >= 0 && x < columns && y >= 0 && y < rows;
        }

        boolean isDark(int x, int y) {
            return hasCell(x, y) && ((dark[y] >> x) & 1) != 0;
        }

        int sortAt(int x, int y) {
            if (!hasCell(x, y)) {
                return 0;
            }
            return ((dark[y] >> x) & 1) + 2 * ((aside[y] >> x) & 1);
        }

        void put(int x, int y, int sort) {
            if (x < 0 || x >= MOST_SIDE || y < 0 || y >= MOST_SIDE) {
                return;
            }
            int others = ~(1 << x);
            dark[y] = (dark[y] & others) | ((sort & 1) << x);
            aside[y] = (aside[y] & others) | (((sort >> 1) & 1) << x);
        }

        void copyTurned(Design other, int turn) {
            boolean upright = (turn & 1) == 0;
            resize(upright ? other.columns : other.rows, upright ? other.rows : other.columns);
            for (int y = 0; y < other.rows; y++) {
                for (int x = 0; x < other.columns; x++) {
                    int mirrored = turn >= 4 ? other.columns - 1 - x : x;
                    int toColumn = other.columnBehind(turn & 3, mirrored, y);
                    int toRow = other.rowBehind(turn & 3, mirrored, y);
                    put(toColumn, toRow, other.sortAt(x, y));
                }
            }
        }

        /** The column to which quarters of a turn to the right bring a CELL. */
        private int columnBehind(int quarters, int x, int y) {
            switch (quarters) {
                case 0:
                    return x;
                case 1:
                    return rows - 1 - y;
                case 2:
                    return columns - 1 - x;
                default:
                    return y;
            }
        }

        private int rowBehind(int quarters, int x, int y) {
            switch (quarters) {
                case 0:
                    return y;
                case 1:
                    return x;
                case 2:
                    return rows - 1 - y;
                default:
                    return columns - 1 - x;
            }
        }

        boolean hasGridOf(Design other) {
            boolean like = columns == other.columns && rows == other.rows;
            for (int y = 0; like && y < MOST_SIDE; y++) {
                like = dark[y] == other.dark[y] && aside[y] == other.aside[y];
            }
            return like;
        }

        int countOfSort(int sort) {
            int number = 0;
            for (int y = 0; y < rows; y++) {
                for (int x = 0; x < columns; x++) {
                    if (sortAt(x, y) == sort) {
                        number++;
                    }
                }
            }
            return number;
        }

        int freedom() {
            int cells = columns * rows;
            int free = cells - countOfSort(DOTTED) - countOfSort(FORCED);
            return cells == 0 ? 0 : free * 1000 / cells;
        }
    }

    /** All that an ACT may change: the DESIGNS and the rule. */
    private static final class Book {
        final Design[] designs;
        int count;
        Rule rule;

        Book() {
            designs = new Design[MOST_DESIGNS];
            for (int i = 0; i < MOST_DESIGNS; i++) {
                designs[i] = new Design();
            }
            count = 0;
            rule = null;
        }

        void copyFrom(Book other) {
            for (int i = 0; i < other.count; i++) {
                designs[i].copyFrom(other.designs[i]);
            }
            count = other.count;
            // A rule never changes once it is read, so books may share it.
            rule = other.rule;
        }

        void remove(int number) {
            if (number < 0 || number >= count) {
                return;
            }
            Design gone = designs[number];
            for (int i = number + 1; i < count; i++) {
                designs[i - 1] = designs[i];
            }
            count--;
            // The room of the one that is gone serves the next one told.
            designs[count] = gone;
        }
    }

    /** The books ahead of the latest ACTS that can be taken back, the latest one last. */
    private static final class History {
        private final Book[] past;
        int count;

        History() {
            past = new Book[MOST_UNDOS];
            for (int i = 0; i < MOST_UNDOS; i++) {
                past[i] = new Book();
            }
            count = 0;
        }

        void keep(Book book) {
            if (count == MOST_UNDOS) {
                forgetOldest();
            }
            if (count < MOST_UNDOS) {
                past[count].copyFrom(book);
                count++;
            }
        }

        private void forgetOldest() {
            Book oldest = past[0];
            for (int i = 1; i < MOST_UNDOS; i++) {
                past[i - 1] = past[i];
            }
            past[MOST_UNDOS - 1] = oldest;
            count--;
        }

        Book takeBack(Book book) {
            if (count == 0) {
                return book;
            }
            count--;
            Book earlier = past[count];
            past[count] = book;
            return earlier;
        }
    }

    /** Goes over the bytes of a TEXT and keeps the first FAULT found, which is the least one. */
    private static final class Scan {
        static final int END = -1;

        private int[] bytes;
        private int length;
        private int at;
        int kind;
        int place;

        Scan() {
            begin(new int[0], 0);
        }

        void begin(int[] tape, int newLength) {
            bytes = tape;
            length = Math.max(0, Math.min(newLength, tape.length));
            at = 0;
            kind = 0;
            place = NONE;
        }

        boolean failed() {
            return kind != 0;
        }

        void fail(int newKind) {
            if (kind == 0) {
                kind = newKind;
                place = at;
            }
        }

        int byteAt(int index) {
            return index >= 0 && index < length ? bytes[index] : END;
        }

        /** The next byte that is no blank. */
        int look() {
            while (at < length && byteAt(at) == ' ') {
                at++;
            }
            return byteAt(at);
        }

        void step() {
            if (at < length) {
                at++;
            }
        }

        int takeNumber() {
            int end = at;
            int number = 0;
            while (end < length && isDigit(byteAt(end))) {
                // Held so that a long number can't wrap round into a good one.
                number = Math.min(10 * number + byteAt(end) - '0', MOST_NUMBER + 1);
                end++;
            }
            if (number > MOST_NUMBER) {
                fail(NO_SUCH_NUMBER);
                return 0;
            }
            at = end;
            return number;
        }

        /** Says if the word that begins here is this one, and no longer. */
        boolean seesWord(String word) {
            int end = at + word.length();
            if (end > length) {
                return false;
            }
            for (int i = at; i < end; i++) {
                if (bytes[i] != word.charAt(i - at)) {
                    return false;
                }
            }
            return end == length || bytes[end] < 'a' || bytes[end] > 'z';
        }

        boolean takesWord(String word) {
            boolean seen = seesWord(word);
            if (seen) {
                at += word.length();
            }
            return seen;
        }

        static boolean isDigit(int sign) {
            return sign >= '0' && sign <= '9';
        }
    }

    /** Reads a TEXT into a book. */
    private static final class TextReader {
        private final Scan scan;
        private final RuleReader rules;

        TextReader() {
            rules = new RuleReader();
            scan = rules.scan;
        }

        Scan readInto(Book book, int[] tape, int length) {
            scan.begin(tape, length);
            book.count = 0;
            book.rule = null;
            // A part that is no FAULT takes some bytes, so there are fewer parts than bytes.
            for (int part = 0; part <= length && !scan.failed(); part++) {
                if (scan.look() == Scan.END) {
                    break;
                }
                if (scan.seesWord("design")) {
                    readDesign(book);
                } else if (book.rule == null && scan.takesWord("rule")) {
                    book.rule = rules.readRule();
                } else {
                    scan.fail(CANNOT_STAND);
                }
            }
            return scan;
        }

        private void readDesign(Book book) {
            if (book.count >= MOST_DESIGNS) {
                scan.fail(TOO_MANY_DESIGNS);
                return;
            }
            scan.takesWord("design");
            if (!Scan.isDigit(scan.look())) {
                scan.fail(CANNOT_STAND);
                return;
            }
            Design design = book.designs[book.count];
            design.begin(scan.takeNumber());
            boolean more = !scan.failed();
            for (int row = 0; row < MOST_SIDE && more; row++) {
                more = readRow(design);
            }
            book.count++;
        }

        /** Reads a ROW and the sign behind it; says if one more ROW is due. */
        private boolean readRow(Design design) {
            boolean first = design.rows == 0;
            int most = first ? MOST_SIDE : design.columns;
            int x = 0;
            while (x < most && sortOf(scan.look()) != NONE) {
                design.put(x, design.rows, sortOf(scan.look()));
                scan.step();
                x++;
            }
            boolean full = first ? x > 0 : x == most;
            int behind = scan.look();
            boolean again = behind == '/' && design.rows + 1 < MOST_SIDE;
            if (!full || !(again || behind == ';')) {
                scan.fail(CANNOT_STAND);
                return false;
            }
            scan.step();
            design.columns = x;
            design.rows++;
            return again;
        }

        private static int sortOf(int sign) {
            switch (sign) {
                case '.':
                    return 0;
                case '#':
                    return SOLID;
                case 'o':
                    return DOTTED;
                case 't':
                    return FORCED;
                default:
                    return NONE;
            }
        }
    }

    /**
     * Reads the B of a rule into codes, each sign behind what it works on. Signs that bind less
     * wait on a pile, so nothing here calls itself, however deep the text goes.
     */
    private static final class RuleReader {
        private static final int NOTHING = 0;

        final Scan scan;
        private final int[] codes;
        private int count;
        private final int[] waiting;
        private int piled;
        private int nots;
        private int brackets;
        private boolean atStart;
        private boolean compared;

        RuleReader() {
            scan = new Scan();
            codes = new int[MOST_BYTES];
            waiting = new int[MOST_WAITING];
            begin();
        }

        private void begin() {
            count = 0;
            piled = 0;
            brackets = 0;
            beginComparison();
        }

        private void beginComparison() {
            nots = 0;
            atStart = true;
            compared = false;
        }

        /** The rule, or null behind a FAULT. */
        Rule readRule() {
            begin();
            boolean valueDue = true;
            // Each round takes some bytes or ends in a FAULT.
            for (int round = 0; round <= MOST_BYTES && !scan.failed(); round++) {
                int next = scan.look();
                if (valueDue) {
                    valueDue = !takesValue(next);
                } else if (next == ';' && mayEnd()) {
                    scan.step();
                    release(0);
                    return new Rule(Arrays.copyOf(codes, count));
                } else {
                    valueDue = takesSign(next);
                }
            }
            return null;
        }

        private boolean mayEnd() {
            return compared && brackets == 0;
        }

        /** Takes what may stand where a U is due; says if the U is whole by it. */
        private boolean takesValue(int next) {
            if (atStart && scan.seesWord("not")) {
                openOne(NOT);
                return false;
            }
            atStart = false;
            if (next == '(') {
                openOne(OPEN);
                return false;
            }
            if (Scan.isDigit(next)) {
                emit(scan.takeNumber());
                return true;
            }
            int fact = takeFact();
            if (fact == NOTHING) {
                scan.fail(CANNOT_STAND);
                return false;
            }
            emit(fact);
            return true;
        }

        private void openOne(int code) {
            if (nots + brackets >= MOST_OPEN) {
                scan.fail(TOO_DEEP);
                return;
            }
            if (code == NOT) {
                scan.takesWord("not");
                nots++;
            } else {
                scan.step();
                brackets++;
            }
            pile(code);
        }

        private int takeFact() {
            if (scan.takesWord("alike")) {
                return ALIKE;
            }
            if (scan.takesWord("freedom")) {
                return FREEDOM;
            }
            if (scan.takesWord("prior")) {
                return PRIOR;
            }
            if (scan.takesWord("dark")) {
                return DARK;
            }
            return scan.takesWord("age") ? AGE : NOTHING;
        }

        /** Takes what may stand behind a U; says if a U is due behind it. */
        private boolean takesSign(int next) {
            if (next == ')' && brackets > 0) {
                scan.step();
                closeBracket();
                return false;
            }
            int code = mayEnd() ? takeJoint() : NOTHING;
            if (code != NOTHING) {
                addSign(code);
                beginComparison();
                return true;
            }
            code = signOf(next);
            if (code == NOTHING || (isComparison(code) && (compared || brackets > 0))) {
                scan.fail(CANNOT_STAND);
                return false;
            }
            scan.step();
            addSign(code);
            compared = compared || isComparison(code);
            return true;
        }

        private int takeJoint() {
            if (scan.takesWord("or")) {
                return OR;
            }
            return scan.takesWord("and") ? AND : NOTHING;
        }

        private static int signOf(int sign) {
            switch (sign) {
                case '<':
                    return LESS;
                case '=':
                    return EQUAL;
                case '>':
                    return MORE;
                case '+':
                    return PLUS;
                case '-':
                    return MINUS;
                case '*':
                    return TIMES;
                default:
                    return NOTHING;
            }
        }

        private static boolean isComparison(int code) {
            return code == LESS || code == EQUAL || code == MORE;
        }

        /** How fast a sign binds; a bracket holds back all that is within it. */
        private static int bindingOf(int code) {
            switch (code) {
                case OPEN:
                    return 0;
                case OR:
                    return 1;
                case AND:
                    return 2;
                case NOT:
                    return 3;
                case PLUS:
                case MINUS:
                    return 5;
                case TIMES:
                    return 6;
                default:
                    return 4;
            }
        }

        private void addSign(int code) {
            release(bindingOf(code));
            pile(code);
        }

        private void closeBracket() {
            release(1);
            if (piled > 0) {
                piled--;
            }
            brackets--;
        }

        private void release(int binding) {
            while (piled > 0 && bindingOf(waiting[piled - 1]) >= binding) {
                piled--;
                emit(waiting[piled]);
            }
        }

        private void pile(int code) {
            if (piled < waiting.length) {
                waiting[piled] = code;
                piled++;
            }
        }

        private void emit(int code) {
            if (count < codes.length) {
                codes[count] = code;
                count++;
            }
        }
    }

    /** A rule as codes, each sign behind what it works on. */
    private static final class Rule {
        private final int[] codes;

        Rule(int[] newCodes) {
            codes = newCodes;
        }

        boolean holds(int[] facts, long[] stack) {
            int size = 0;
            for (int i = 0; i < codes.length; i++) {
                int code = codes[i];
                if (code > OPEN) {
                    if (size < stack.length) {
                        stack[size] = valueOf(code, facts);
                        size++;
                    }
                } else if (code == NOT) {
                    if (size >= 1) {
                        stack[size - 1] = 1 - stack[size - 1];
                    }
                } else if (size >= 2) {
                    size--;
                    stack[size - 1] = worked(code, stack[size - 1], stack[size]);
                }
            }
            return size >= 1 && stack[0] == 1;
        }

        private static long valueOf(int code, int[] facts) {
            if (code >= 0) {
                return code;
            }
            int fact = -1 - code;
            return fact < facts.length ? facts[fact] : 0;
        }

        private static long worked(int code, long left, long right) {
            switch (code) {
                case OR:
                    return left | right;
                case AND:
                    return left & right;
                case LESS:
                    return left < right ? 1 : 0;
                case EQUAL:
                    return left == right ? 1 : 0;
                case MORE:
                    return left > right ? 1 : 0;
                case PLUS:
                    return held(left + right);
                case MINUS:
                    return held(left - right);
                default:
                    return held(left * right);
            }
        }

        private static long held(long number) {
            return Math.max(-HELD, Math.min(HELD, number));
        }
    }

    /** A BEST OVERLAY, kept till one of its two DESIGNS changes. */
    private static final class Best {
        boolean known;
        int same;
        int all;
        int turn;
        int dx;
        int dy;

        Best() {
            known = false;
            begin(0, 0);
        }

        void begin(int firstDx, int firstDy) {
            same = 0;
            all = 1;
            turn = 0;
            dx = firstDx;
            dy = firstDy;
        }

        boolean isBelow(int otherSame, int otherAll) {
            return otherSame * all > same * otherAll;
        }

        boolean isAbove(Best other) {
            return other.isBelow(same, all);
        }

        boolean isWhole() {
            return same == all;
        }

        int above() {
            return lowered(same);
        }

        int below() {
            return lowered(all);
        }

        private int lowered(int number) {
            int common = greatestCommon(all, same);
            return common == 0 ? number : number / common;
        }

        int thousandths() {
            return all == 0 ? 0 : same * 1000 / all;
        }

        private static int greatestCommon(int greater, int lesser) {
            int a = greater;
            int b = lesser;
            for (int round = 0; round < MOST_NUMBER && b > 0; round++) {
                int rest = a % b;
                a = b;
                b = rest;
            }
            return a;
        }
    }

    /** Lays DESIGNS over each other. */
    private static final class Overlays {
        private final Best[] found;
        private Design fixed;
        private Design moved;
        private final Design turned;
        private final int[] solid;
        private final int[] dotted;
        private int darkOnes;
        int same;
        int unlike;

        Overlays() {
            found = new Best[MOST_DESIGNS * MOST_DESIGNS];
            for (int i = 0; i < found.length; i++) {
                found[i] = new Best();
            }
            turned = new Design();
            fixed = turned;
            moved = turned;
            solid = new int[MOST_SIDE];
            dotted = new int[MOST_SIDE];
            darkOnes = 0;
            same = 0;
            unlike = 0;
        }

        void forgetAll() {
            for (int i = 0; i < found.length; i++) {
                found[i].known = false;
            }
        }

        void forget(int design) {
            for (int i = 0; i < found.length; i++) {
                if (i / MOST_DESIGNS == design || i % MOST_DESIGNS == design) {
                    found[i].known = false;
                }
            }
        }

        /** Finds the BEST OVERLAYS of a with all others. */
        void learnFrom(Book book, int a) {
            for (int b = 0; b < book.count; b++) {
                if (b != a) {
                    learn(book, a, b);
                }
            }
        }

        void learn(Book book, int a, int b) {
            Best best = bestOf(a, b);
            if (!best.known) {
                take(book.designs[a], book.designs[b]);
                seek(best);
                best.known = true;
            }
        }

        Best bestOf(int a, int b) {
            return found[a * MOST_DESIGNS + b];
        }

        /** Makes ready for overlays of a with b. */
        void take(Design a, Design b) {
            fixed = a;
            moved = b;
            darkOnes = 0;
            for (int y = 0; y < MOST_SIDE; y++) {
                solid[y] = a.dark[y] & ~a.aside[y];
                darkOnes += Integer.bitCount(solid[y]) + Integer.bitCount(b.dark[y]);
            }
        }

        void turnTo(int turn) {
            turned.copyTurned(moved, turn);
            for (int y = 0; y < MOST_SIDE; y++) {
                dotted[y] = turned.aside[y] & ~turned.dark[y];
            }
        }

        /**
         * Finds SAME and UNLIKE by a SHIFT. All that is SOLID in A or DARK in B is taken for
         * UNLIKE first, wherever it lies; where the GRIDS meet it is taken off again.
         */
        void lay(int dx, int dy) {
            int both = 0;
            int apart = 0;
            int end = Math.min(fixed.rows, turned.rows + dy);
            for (int y = Math.max(0, dy); y < end; y++) {
                int dark = shifted(turned.dark[y - dy], dx);
                both += Integer.bitCount(solid[y] & dark);
                int dots = shifted(dotted[y - dy], dx);
                // No place is SOLID and set aside at once, so one count does for both.
                apart += Integer.bitCount((solid[y] & dots) | (fixed.aside[y] & dark));
            }
            same = both;
            unlike = darkOnes - 2 * both - apart;
        }

        private static int shifted(int row, int dx) {
            return dx >= 0 ? row << dx : row >> -dx;
        }

        private void seek(Best best) {
            best.begin(1 - moved.columns, 1 - moved.rows);
            // A whole likeness can't be beaten, and of several the first one counts.
            for (int turn = 0; turn < TURNS && !best.isWhole(); turn++) {
                turnTo(turn);
                for (int dy = 1 - turned.rows; dy < fixed.rows; dy++) {
                    for (int dx = 1 - turned.columns; dx < fixed.columns; dx++) {
                        lay(dx, dy);
                        if (same > 0 && best.isBelow(same, same + unlike)) {
                            best.same = same;
                            best.all = same + unlike;
                            best.turn = turn;
                            best.dx = dx;
                            best.dy = dy;
                        }
                    }
                }
            }
        }
    }

    /** Counts what the outline of one DESIGN shows. */
    private static final class Shapes {
        private final Design turned;
        private final int[] seen;
        private final int[] line;
        private int lined;

        Shapes() {
            turned = new Design();
            seen = new int[MOST_SIDE];
            line = new int[MOST_SIDE * MOST_SIDE];
            lined = 0;
        }

        int edgeOf(Design design) {
            int sides = 0;
            for (int y = 0; y < design.rows; y++) {
                for (int x = 0; x < design.columns; x++) {
                    if (design.isDark(x, y)) {
                        sides += design.isDark(x - 1, y) ? 0 : 1;
                        sides += design.isDark(x + 1, y) ? 0 : 1;
                        sides += design.isDark(x, y - 1) ? 0 : 1;
                        sides += design.isDark(x, y + 1) ? 0 : 1;
                    }
                }
            }
            return sides;
        }

        int partsOf(Design design) {
            return countSets(design, true);
        }

        int holesOf(Design design) {
            return countSets(design, false);
        }

        /** Sets of DARK CELLS, or of others that do not come to the rim. */
        private int countSets(Design design, boolean dark) {
            Arrays.fill(seen, 0);
            int sets = 0;
            for (int y = 0; y < design.rows; y++) {
                for (int x = 0; x < design.columns; x++) {
                    if (isFresh(design, x, y, dark)) {
                        boolean atRim = walkSet(design, x, y, dark);
                        sets += dark || !atRim ? 1 : 0;
                    }
                }
            }
            return sets;
        }

        private boolean isFresh(Design design, int x, int y, boolean dark) {
            return design.hasCell(x, y) && design.isDark(x, y) == dark && ((seen[y] >> x) & 1) == 0;
        }

        /** Goes over all the set that a CELL is of; says if it comes to the rim of the GRID. */
        private boolean walkSet(Design design, int firstX, int firstY, boolean dark) {
            boolean atRim = false;
            lined = 0;
            lineUp(firstX, firstY);
            for (int next = 0; next < lined && next < line.length; next++) {
                int x = line[next] % MOST_SIDE;
                int y = line[next] / MOST_SIDE;
                atRim = atRim || x == 0 || y == 0 || x == design.columns - 1 || y == design.rows - 1;
                for (int side = 0; side < 9; side++) {
                    int dx = side % 3 - 1;
                    int dy = side / 3 - 1;
                    boolean corner = dx != 0 && dy != 0;
                    if (!(dark && corner) && isFresh(design, x + dx, y + dy, dark)) {
                        lineUp(x + dx, y + dy);
                    }
                }
            }
            return atRim;
        }

        private void lineUp(int x, int y) {
            if (lined < line.length) {
                line[lined] = y * MOST_SIDE + x;
                lined++;
                seen[y] |= 1 << x;
            }
        }

        int looksOf(Design design) {
            int looks = 0;
            for (int turn = 1; turn < TURNS; turn++) {
                turned.copyTurned(design, turn);
                if (turned.hasGridOf(design)) {
                    looks |= 1 << turn;
                }
            }
            return looks;
        }
    }
}
