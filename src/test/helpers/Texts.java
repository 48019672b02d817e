/** Makes texts for tests. */
final class Texts {
    private Texts() {
    }

    static String grid(char sign, int columns, int rows) {
        String row = String.valueOf(sign).repeat(columns);
        return (row + "/").repeat(rows - 1) + row;
    }

    /** The first cells, row by row, are of one sign, the rest of another. */
    static String filled(int cells, char sign, char rest, int columns, int rows) {
        StringBuilder text = new StringBuilder();
        for (int i = 0; i < columns * rows; i++) {
            text.append(i > 0 && i % columns == 0 ? "/" : "").append(i < cells ? sign : rest);
        }
        return text.toString();
    }

    /** One cell is of one sign, all others of another. */
    static String spot(int x, int y, char sign, char rest, int columns, int rows) {
        StringBuilder text = new StringBuilder(grid(rest, columns, rows));
        text.setCharAt(y * (columns + 1) + x, sign);
        return text.toString();
    }

    static String board(int columns, int rows) {
        StringBuilder text = new StringBuilder(grid('.', columns, rows));
        for (int y = 0; y < rows; y++) {
            for (int x = 0; x < columns; x++) {
                text.setCharAt(y * (columns + 1) + x, (x + y) % 2 == 0 ? '#' : '.');
            }
        }
        return text.toString();
    }

    static String design(int day, String rows) {
        return "design " + day + " " + rows + ";";
    }

    static String pair(String a, String b) {
        return design(1, a) + design(1, b);
    }

    static String designs(int number) {
        StringBuilder text = new StringBuilder();
        for (int i = 0; i < number; i++) {
            text.append(design(i, "#"));
        }
        return text.toString();
    }
}
