/** What tests share: the numbers of the errors, boards that are written as texts, and texts that are typed. */
abstract class BoardChecks {
    static final int INVALID = -1001, IMPOSSIBLE = -1002, LIMIT = -1003, LARGE = -1004, MISSING = -1005;
    static final Checks checks = new Checks();

    static void sentence(String words) {
        checks.sentence(words);
    }

    static void due(String call, long got, long want) {
        checks.due(call, got, want);
    }

    /** A board of this size; fields: a digit a field. Its history has a state for reset, and one a piece or burned field. */
    static BurningFields board(int width, int height, String fields) {
        BurningFields x = new BurningFields();
        x.reset(width, height);
        for (int f = 0; f < fields.length(); f++) {
            if (fields.charAt(f) != '0') {
                x.setField(f, fields.charAt(f) - '0');
            }
        }
        dueFields("board", x, fields);
        return x;
    }

    static void dueFields(String when, BurningFields x, String fields) {
        for (int f = 0; f < fields.length(); f++) {
            due(when + ": field(" + f + ")", x.field(f), fields.charAt(f) - '0');
        }
        due(when + ": field(" + fields.length() + ")", x.field(fields.length()), INVALID);
    }

    /** Types this text in place of the one before. */
    static void write(BurningFields x, String text) {
        x.clearText();
        for (int i = 0; i < text.length(); i++) {
            due("type in " + text, x.type(text.charAt(i)), i + 1);
        }
    }

    /** The same fields with the sides exchanged. */
    static String swapped(String fields) {
        return fields.replace('1', 'L').replace('2', '1').replace('L', '2');
    }
}
