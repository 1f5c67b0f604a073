/** A check or more for each promise of the document: ordinary inputs, edges and wrong inputs. */
public final class PromisesTest extends BoardChecks {
    private static final int[] WRONG_SIDES = {0, 3, -1, Integer.MIN_VALUE, Integer.MAX_VALUE};

    private static void dueFault(String text, int want) {
        BurningFields x = new BurningFields();
        write(x, text);
        due("fault of '" + text + "'", x.fault(), want);
        due("fault of '" + text + "' again", x.fault(), want);
        if (want >= 0) {
            due("run of '" + text + "'", x.run(), IMPOSSIBLE);
            due("undo after '" + text + "'", x.undo(), IMPOSSIBLE);
            dueFields("after '" + text + "'", x, "000000000");
        }
        due("text stays", x.clearText(), text.length());
    }

    private static void newObject() { // promise 1
        BurningFields x = new BurningFields();
        dueFields("new", x, "000000000");
        due("count(0)", x.count(0), 9);
        due("undo()", x.undo(), IMPOSSIBLE);
        due("kept(0)", x.kept(0), 0);
        due("kept(1)", x.kept(1), 0);
        due("clearText()", x.clearText(), 0);
        due("fault()", x.fault(), MISSING);
        due("reset(1, 1)", x.reset(1, 1), 33);
    }

    private static void reset() { // promise 2
        BurningFields x = new BurningFields();
        int before = 33;
        for (int w = -1; w <= 7; w++) {
            for (int h = -1; h <= 7; h++) {
                boolean fits = w >= 1 && w <= 5 && h >= 1 && h <= 5 && w * h <= 15;
                due("reset(" + w + ", " + h + ")", x.reset(w, h), fits ? before : INVALID);
                if (fits) {
                    before = 10 * w + h;
                    due("count(0)", x.count(0), w * h);
                    due("field", x.field(w * h - 1), 0);
                    due("field", x.field(w * h), INVALID);
                }
            }
        }
        due("reset", x.reset(Integer.MIN_VALUE, Integer.MIN_VALUE), INVALID);
        due("reset", x.reset(Integer.MAX_VALUE, 1), INVALID);
        due("reset", x.reset(1 << 16, 1 << 16), INVALID);
        BurningFields y = board(3, 2, "133032");
        due("value(0)", y.value(0), 1);
        due("value(0)", y.value(0), 1);
        due("reset(0, 3)", y.reset(0, 3), INVALID);
        dueFields("after a wrong reset", y, "133032");
        due("kept(0)", y.kept(0), 1);
        write(y, "pass;");
        due("reset(3, 2)", y.reset(3, 2), 32);
        dueFields("after reset", y, "000000");
        due("the table is emptied", y.kept(0), 0);
        due("the hits stay", y.kept(1), 1);
        due("the text stays", y.clearText(), 5);
        due("the history goes on", y.undo(), 6);
        dueFields("after undo", y, "133032");
    }

    private static void setField() { // promise 3
        BurningFields x = new BurningFields();
        due("setField", x.setField(4, 1), 0);
        due("setField", x.setField(4, 2), 1);
        due("setField", x.setField(4, 3), 2);
        due("setField", x.setField(4, 0), 3);
        due("setField", x.setField(8, 0), 0);
        for (int wrong : new int[] {-1, 9, Integer.MIN_VALUE, Integer.MAX_VALUE}) {
            due("setField", x.setField(wrong, 0), INVALID);
        }
        for (int wrong : new int[] {-1, 4, Integer.MIN_VALUE, Integer.MAX_VALUE}) {
            due("setField", x.setField(0, wrong), INVALID);
        }
        due("five changes", x.undo(), 4);
        for (int side = 1; side <= 2; side++) {
            BurningFields y = board(3, 3, side == 1 ? "111200000" : "222100000");
            due("a fourth one", y.setField(8, side), LIMIT);
            due("a fourth one", y.setField(3, side), LIMIT);
            due("no such field", y.setField(9, side), INVALID);
            due("errors are no changes", y.undo(), 4);
            due("again", y.setField(3, 3 - side), 0);
            due("the same again", y.setField(0, side), side);
            due("to the other side", y.setField(0, 3 - side), side);
            due("now a third one", y.setField(8, side), 0);
            due("and a fourth one", y.setField(7, side), LIMIT);
            due("burned", y.setField(1, 3), side);
            due("free", y.setField(2, 0), side);
            due("count", y.count(side), 1);
        }
    }

    private static void field() { // promise 4
        BurningFields x = board(2, 3, "012301");
        for (int wrong : new int[] {-1, 6, 9, Integer.MIN_VALUE, Integer.MAX_VALUE}) {
            due("field(" + wrong + ")", x.field(wrong), INVALID);
        }
    }

    private static void count() { // promise 5
        BurningFields x = board(5, 3, "111223333000000");
        int[] want = {6, 3, 2, 4};
        for (int what = 0; what <= 3; what++) {
            due("count(" + what + ")", x.count(what), want[what]);
        }
        for (int wrong : new int[] {-1, 4, Integer.MIN_VALUE, Integer.MAX_VALUE}) {
            due("count(" + wrong + ")", x.count(wrong), INVALID);
        }
    }

    private static void isSeen() { // promise 6
        //   0  1  2  3  4      . . . . .
        //   5  6  7  8  9      . . L . .
        //  10 11 12 13 14      . . X . .
        BurningFields x = board(5, 3, "000000010000300");
        dueSeen(x, 7, "011101101101010");
        dueSeen(x, 5, "110000100011000");
        dueSeen(x, 12, "100010101011011");
        dueSeen(x, 2, "110110101010001");
        dueSeen(x, 14, "001010001100010");
        BurningFields y = board(3, 5, "000000000000000");
        dueSeen(y, 0, "011110101100100");
        due("isSeen(2, 3) goes round no edge", y.isSeen(2, 3), 0);
        due("isSeen(4, 4)", y.isSeen(4, 4), 0);
        for (int wrong : new int[] {-1, 15, Integer.MIN_VALUE, Integer.MAX_VALUE}) {
            due("isSeen", y.isSeen(0, wrong), INVALID);
            due("isSeen", y.isSeen(wrong, 0), INVALID);
        }
    }

    private static void dueSeen(BurningFields x, int from, String seen) {
        for (int b = 0; b < seen.length(); b++) {
            due("isSeen(" + from + ", " + b + ")", x.isSeen(from, b), seen.charAt(b) - '0');
        }
    }

    private static void undo() { // promise 7
        BurningFields x = new BurningFields();
        for (int i = 0; i < 9; i++) {
            x.setField(i, 3);
        }
        for (int left = 7; left >= 0; left--) {
            due("undo()", x.undo(), left);
            due("field", x.field(left + 1), 0);
            due("field", x.field(left), 3);
        }
        due("undo()", x.undo(), IMPOSSIBLE);
        dueFields("the oldest one is dropped", x, "300000000");

        BurningFields y = board(3, 1, "103");
        due("value(0)", y.value(0), 1);
        y.setField(1, 3);
        due("value(0)", y.value(0), 0);
        due("kept(0)", y.kept(0), 2);
        due("undo()", y.undo(), 3);
        due("the same size: values stay", y.kept(0), 2);
        y.undo();
        y.undo();
        due("the same size: values stay", y.kept(0), 2);
        due("undo() of reset", y.undo(), 0);
        due("another size", y.kept(0), 0);
        dueFields("undo() of reset", y, "000000000");

        BurningFields z = board(2, 3, "130000");
        z.reset(3, 2);
        z.setField(0, 1);
        z.setField(1, 3);
        z.setField(3, 3);
        z.setField(4, 3);
        due("value(0)", z.value(0), 0);
        for (int i = 0; i < 4; i++) {
            due("undo()", z.undo(), 7 - i);
            due("the same size: values stay", z.kept(0), 1);
        }
        due("undo()", z.undo(), 3);
        due("2 times 3 is not 3 times 2", z.kept(0), 0);
        dueFields("2 times 3", z, "130000");
        due("isSeen(0, 4)", z.isSeen(0, 4), 1);
        due("isSeen(0, 5)", z.isSeen(0, 5), 0);
        due("reset(3, 3)", z.reset(3, 3), 23);
    }

    private static void move() { // promise 8
        BurningFields x = board(3, 3, "100000002");
        due("move(1, 0, 4, 0)", x.move(1, 0, 4, 0), 4 + 3 + 4 + 3);
        dueFields("after the move", x, "300010002");
        due("move(2, 8, 5, 8)", x.move(2, 8, 5, 8), x.moves(1));
        dueFields("after the move", x, "300012003");
        due("undo()", x.undo(), 4);
        dueFields("undone", x, "300010002");
        int[][] wrong = {{0, 4, 1, 2}, {3, 4, 1, 2}, {1, -1, 1, 2}, {1, 9, 1, 2}, {1, 4, -1, 2}, {1, 4, 9, 2},
            {1, 4, 1, -1}, {1, 4, 1, 9}, {Integer.MIN_VALUE, 4, 1, 2}, {1, Integer.MAX_VALUE, 1, 2},
            {1, 4, 1, Integer.MAX_VALUE}, {1, 4, 17, 2}, {1, 4, 1, 18}};
        for (int[] m : wrong) {
            due("a wrong move", x.move(m[0], m[1], m[2], m[3]), INVALID);
        }
        int[][] impossible = {{1, 8, 7, 6}, {2, 4, 1, 2}, {1, 1, 2, 5}, {1, 4, 0, 4}, {1, 4, 8, 4}, {1, 4, 1, 0},
            {1, 4, 4, 1}, {1, 4, 1, 1}, {1, 4, 1, 6}, {1, 4, 1, 8}};
        for (int[] m : impossible) {
            due("no move", x.move(m[0], m[1], m[2], m[3]), IMPOSSIBLE);
        }
        dueFields("errors change nothing", x, "300010002");
        due("errors are no changes", x.undo(), 3);
        BurningFields y = board(4, 1, "0100");
        due("burns past the field that it left", y.move(1, 1, 2, 0), 0);
        dueFields("burned", y, "3010");
        BurningFields z = board(3, 1, "120");
        due("jumps over nothing", z.move(1, 0, 2, 0), IMPOSSIBLE);
        due("the other side's moves", z.move(2, 1, 2, 1), 0);
        dueFields("burned", z, "132");
        BurningFields free = board(5, 1, "10002");
        due("the other side's moves", free.move(1, 0, 1, 0), 2 + 2);
    }

    private static void moves() { // promise 9
        BurningFields x = board(2, 2, "1002");
        due("moves(1)", x.moves(1), 4);
        due("moves(2)", x.moves(2), 4);
        due("moves(1)", board(3, 3, "000010000").moves(1), 8 * 6);
        due("moves(2)", board(3, 3, "000010000").moves(2), 0);
        due("moves(1)", board(5, 3, "133333333333333").moves(1), 0);
        due("moves(1)", board(3, 1, "100").moves(1), 4);
        due("moves(2)", board(1, 3, "020").moves(2), 4);
        for (int side : WRONG_SIDES) {
            due("moves(" + side + ")", x.moves(side), INVALID);
        }
    }

    private static void moveAt() { // promise 10
        BurningFields x = board(3, 1, "100");
        int[][] want = {{0, 1, 0}, {0, 1, 2}, {0, 2, 0}, {0, 2, 1}};
        dueMoves(x, 1, want);
        BurningFields y = board(3, 2, "010232");
        int[][] left = {{1, 0, 1}, {1, 0, 2}, {1, 2, 0}, {1, 2, 1}};
        int[][] right = {{3, 0, 3}, {5, 2, 5}};
        dueMoves(y, 1, left);
        dueMoves(y, 2, right);
        due("moveAt", x.moveAt(2, 0, 0), MISSING);
        due("moveAt", x.moveAt(1, Integer.MAX_VALUE, 2), MISSING);
        due("moveAt", x.moveAt(1, -1, 0), INVALID);
        due("moveAt", x.moveAt(1, Integer.MIN_VALUE, 0), INVALID);
        due("moveAt", x.moveAt(1, 5, 3), INVALID);
        due("moveAt", x.moveAt(1, 5, -1), INVALID);
        for (int side : WRONG_SIDES) {
            due("moveAt", x.moveAt(side, 0, 0), INVALID);
        }
        BurningFields z = board(5, 3, "000000010000000");
        int n = z.moves(1);
        int before = -1;
        for (int i = 0; i < n; i++) {
            int code = z.moveAt(1, i, 0) * 10000 + z.moveAt(1, i, 1) * 100 + z.moveAt(1, i, 2);
            checks.holds("the moves are in order", code > before);
            before = code;
        }
    }

    private static void dueMoves(BurningFields x, int side, int[][] want) {
        due("moves(" + side + ")", x.moves(side), want.length);
        for (int i = 0; i < want.length; i++) {
            for (int what = 0; what < 3; what++) {
                due("moveAt(" + side + ", " + i + ", " + what + ")", x.moveAt(side, i, what), want[i][what]);
            }
        }
        due("moveAt(" + side + ", too many, 0)", x.moveAt(side, want.length, 0), MISSING);
    }

    private static void regions() { // promise 11
        due("regions()", board(3, 3, "000333000").regions(), 2);
        due("corners join", board(2, 2, "0330").regions(), 1);
        due("all burned", board(2, 2, "3333").regions(), 0);
        due("six", board(5, 3, "030303333303030").regions(), 6);
        due("a winding one", board(5, 3, "003000303030003").regions(), 1);
        due("from below", board(5, 3, "030303030300300").regions(), 1);
        due("pieces divide nothing", board(3, 1, "010").regions(), 1);
        due("edges do not join", board(3, 2, "330033").regions(), 2);
    }

    private static void regionOf() { // promise 12
        BurningFields x = partedBoard();
        for (int f = 0; f < 15; f++) {
            int want = x.field(f) == 3 ? MISSING : f == 3 ? 1 : f >= 13 ? 2 : 0;
            due("regionOf(" + f + ")", x.regionOf(f), want);
        }
        for (int wrong : new int[] {-1, 15, 31, 32, Integer.MIN_VALUE, Integer.MAX_VALUE}) {
            due("regionOf(" + wrong + ")", x.regionOf(wrong), INVALID);
        }
    }

    private static BurningFields partedBoard() {
        // . . X L X
        // R . X X X
        // . . X . .
        BurningFields x = board(5, 3, "003132033300300");
        x.setField(4, 3);
        x.setField(5, 2);
        dueFields("parted", x, "003132033300300");
        return x;
    }

    private static void regionInfo() { // promise 13
        BurningFields x = partedBoard();
        due("regions()", x.regions(), 3);
        int[][] want = {{2, 6, 5, 0, 1, 0}, {1, 1, 0, 1, 0, 3}, {0, 2, 2, 0, 0, 13}};
        for (int r = 0; r < 3; r++) {
            for (int what = 0; what <= 5; what++) {
                due("regionInfo(" + r + ", " + what + ")", x.regionInfo(r, what), want[r][what]);
            }
            for (int wrong : new int[] {-1, 6, Integer.MIN_VALUE, Integer.MAX_VALUE}) {
                due("regionInfo", x.regionInfo(r, wrong), INVALID);
            }
        }
        for (int wrong : new int[] {-1, 3, Integer.MIN_VALUE, Integer.MAX_VALUE}) {
            due("regionInfo", x.regionInfo(wrong, 0), INVALID);
        }
        BurningFields y = board(5, 1, "12102");
        int[] mixed = {3, 5, 1, 2, 2, 0};
        for (int what = 0; what <= 5; what++) {
            due("regionInfo(0, " + what + ")", y.regionInfo(0, what), mixed[what]);
        }
    }

    /** Left can make two moves, right one, and one region is free. */
    private static BurningFields leadingBoard() {
        // L . . X X
        // X X X X X
        // R . X . X
        return board(5, 3, "100333333320303");
    }

    private static void value() { // promise 14
        BurningFields x = leadingBoard();
        due("value(0)", x.value(0), 2);
        due("value(1)", x.value(1), 1);
        due("value(2)", x.value(2), 0);
        for (int wrong : new int[] {-1, 3, Integer.MIN_VALUE, Integer.MAX_VALUE}) {
            due("value(" + wrong + ")", x.value(wrong), INVALID);
        }
        due("kept(0)", x.kept(0), 2);
        due("kind 3", board(3, 1, "102").value(0), IMPOSSIBLE);
        due("no region", board(1, 1, "3").value(0), INVALID);
        due("no move", board(5, 1, "11132").value(0), 0);
        due("no move of right", board(5, 1, "22231").value(0), 0);
        BurningFields free = new BurningFields();
        due("kind 0", free.value(0), 0);
        due("kind 0", free.value(0), 0);
        due("kind 0 is not kept", free.kept(0), 0);
        due("nor a hit", free.kept(1), 0);
        BurningFields most = board(5, 2, "3010100003");
        due("1500 arrangements", most.value(0), 6);
        due("kept", most.kept(0), 1);
        BurningFields tooMany = board(5, 2, "0003310010");
        due("1501 arrangements", tooMany.value(0), LARGE);
        due("again", tooMany.value(0), LARGE);
        due("not kept", tooMany.kept(0), 0);
        due("no hit", tooMany.kept(1), 0);
        due("1500 of right", board(3, 4, "003203020330").value(0), 6);
        due("1501 of right", board(5, 2, "2002000033").value(0), LARGE);
    }

    private static void lead() { // promise 15
        BurningFields x = leadingBoard();
        due("lead()", x.lead(), 1);
        due("kept(0)", x.kept(0), 2);
        due("kept(1)", x.kept(1), 0);
        due("lead()", x.lead(), 1);
        due("kept(1)", x.kept(1), 2);
        due("value(1)", x.value(1), 1);
        due("kept(1)", x.kept(1), 3);
        due("right leads", board(5, 1, "10320").lead(), 0);
        due("right leads", board(5, 1, "13002").lead(), -2);
        due("free", new BurningFields().lead(), 0);
        due("no region", board(1, 1, "3").lead(), 0);
        BurningFields shared = board(5, 3, "131023333300000");
        due("a region of kind 3", shared.lead(), IMPOSSIBLE);
        due("nothing was asked for", shared.kept(0), 0);
        // L X . . .    The value of the second region is too large; that of the third one
        // X X R . R    is not asked for.
        // L X . . .
        BurningFields y = board(5, 3, "130003320213000");
        due("lead()", y.lead(), LARGE);
        due("kept(0)", y.kept(0), 1);
        due("kept(1)", y.kept(1), 0);
        due("lead()", y.lead(), LARGE);
        due("kept(0)", y.kept(0), 1);
        due("kept(1)", y.kept(1), 1);
        due("value(2)", y.value(2), 0);
        due("kept(0)", y.kept(0), 2);
        due("value(1)", y.value(1), LARGE);
        // Three regions, the last one with both sides' pieces; then it is divided and the others are burned.
        BurningFields fewer = board(5, 3, "133313333310002");
        due("lead()", fewer.lead(), IMPOSSIBLE);
        fewer.setField(0, 3);
        fewer.setField(4, 3);
        fewer.setField(12, 3);
        due("lead()", fewer.lead(), 1 - 1);
        due("kept(0)", fewer.kept(0), 2);
        // A region of kind 3 counts more than one that is too large.
        due("errors", board(5, 3, "100031013200033").lead(), IMPOSSIBLE);
        due("errors", board(5, 3, "100031013300033").lead(), LARGE);
    }

    private static void kept() { // promise 16
        BurningFields x = new BurningFields();
        for (int wrong : new int[] {-1, 2, Integer.MIN_VALUE, Integer.MAX_VALUE}) {
            due("kept(" + wrong + ")", x.kept(wrong), INVALID);
        }
        x.setField(4, 1);
        x.setField(7, 3);
        x.setField(8, 3);
        for (int pattern = 0; pattern <= 40; pattern++) {
            show(x, Math.max(0, pattern - 1), pattern);
            checks.holds("value(0) is small", x.value(0) >= 0);
            due("kept(0) at " + pattern, x.kept(0), pattern < 40 ? pattern + 1 : 1);
        }
        due("kept(1)", x.kept(1), 0);
        x.value(0);
        due("kept(1)", x.kept(1), 1);
        for (int pattern = 39; pattern >= 0; pattern--) {
            show(x, pattern + 1, pattern);
            x.value(0);
            due("kept(0) at " + pattern, x.kept(0), pattern > 0 ? 41 - pattern : 1);
            if (pattern == 1) {
                x.value(0);
                due("a hit in a table of 40", x.kept(0), 40);
                due("kept(1)", x.kept(1), 2);
            }
        }
        due("kept(1)", x.kept(1), 2);

        BurningFields y = board(5, 1, "10302");
        due("lead()", y.lead(), 1 - 1);
        due("kept(0)", y.kept(0), 2);
        y.setField(4, 3);
        due("the same region on another board", y.value(0), 1);
        due("kept(1)", y.kept(1), 1);
        y.setField(0, 2);
        due("the other side", y.value(0), 1);
        due("kept(0)", y.kept(0), 3);
        due("kept(1)", y.kept(1), 1);
        due("the region after moves was not asked for", y.move(2, 0, 1, 0), 0);
        due("value(0)", y.value(0), 0);
        due("kept(0)", y.kept(0), 4);
        y.undo();
        due("an old one", y.value(0), 1);
        due("kept(1)", y.kept(1), 2);
    }

    /** Fields round the middle one: each number burns others, and the next one a field more or less. */
    private static void show(BurningFields x, int before, int pattern) {
        int[] fields = {0, 1, 2, 3, 5, 6};
        int old = before ^ before >> 1;
        int now = pattern ^ pattern >> 1;
        for (int i = 0; i < fields.length; i++) {
            if (((old ^ now) >> i & 1) != 0) {
                x.setField(fields[i], (now >> i & 1) != 0 ? 3 : 0);
            }
        }
    }

    private static void duePlay(BurningFields x, int side, int positions, int wins, int best, int length) {
        due("positions(" + side + ")", x.positions(side), positions);
        due("wins(" + side + ")", x.wins(side), wins);
        due("bestMove(" + side + ")", x.bestMove(side), best);
        due("length(" + side + ")", x.length(side), length);
    }

    private static void play() { // promises 17 to 19 and 21 to 23
        BurningFields x = board(3, 1, "100");
        duePlay(x, 1, 5, 1, 0, 1);
        duePlay(x, 2, 1, 0, MISSING, 0);
        due("left wins", x.outcome(), BurningFields.LEFT_WINS);
        due("zugzwangs()", x.zugzwangs(), 0);
        BurningFields y = board(3, 1, "200");
        duePlay(y, 2, 5, 1, 0, 1);
        duePlay(y, 1, 1, 0, MISSING, 0);
        due("right wins", y.outcome(), BurningFields.RIGHT_WINS);
        // Who begins burns the only free field.
        BurningFields first = board(3, 1, "102");
        duePlay(first, 1, 2, 1, 0, 1);
        duePlay(first, 2, 2, 1, 0, 1);
        due("the first one wins", first.outcome(), BurningFields.FIRST_WINS);
        // After either's move both sides have none: no position of both plays is lost for both.
        due("zugzwangs()", first.zugzwangs(), 0);
        BurningFields second = board(2, 1, "12");
        duePlay(second, 1, 1, 0, MISSING, 0);
        due("the second one wins", second.outcome(), BurningFields.SECOND_WINS);
        due("zugzwangs()", second.zugzwangs(), 1);
        // One move each, in regions of their own. After both moves nobody can move.
        BurningFields each = board(5, 1, "10302");
        duePlay(each, 1, 3, 0, MISSING, 2);
        duePlay(each, 2, 3, 0, MISSING, 2);
        due("the second one wins", each.outcome(), BurningFields.SECOND_WINS);
        due("at first and at the end", each.zugzwangs(), 2);
        // Left has the longer way; right has one move.
        BurningFields longer = board(5, 3, "100333333320303");
        due("left wins", longer.outcome(), BurningFields.LEFT_WINS);
        due("length(1)", longer.length(1), 3);
        due("length(2)", longer.length(2), 2);
        due("bestMove(1)", longer.bestMove(1), 0);
        for (int side : WRONG_SIDES) {
            due("positions(" + side + ")", x.positions(side), INVALID);
            due("wins(" + side + ")", x.wins(side), INVALID);
            due("bestMove(" + side + ")", x.bestMove(side), INVALID);
            due("length(" + side + ")", x.length(side), INVALID);
        }
        dueFields("the play is only thought of", x, "100");
        due("the play is only thought of", x.undo(), 1);
    }

    private static void largePlay() { // promises 17 to 23, at their limit
        BurningFields most = board(5, 2, "1000030320");
        due("positions(1)", most.positions(1), 1500);
        due("positions(2)", most.positions(2), 896);
        checks.holds("wins(1)", most.wins(1) >= 0);
        checks.holds("bestMove(1)", most.bestMove(1) != LARGE);
        checks.holds("length(1)", most.length(1) >= 0);
        checks.holds("outcome()", most.outcome() >= 0);
        checks.holds("outcomeOf(0)", most.outcomeOf(0) == most.outcome());
        checks.holds("zugzwangs()", most.zugzwangs() >= 0);
        BurningFields both = board(3, 4, "000201303132");
        due("positions(1)", both.positions(1), 1500);
        due("positions(2)", both.positions(2), 1500);
        checks.holds("outcome()", both.outcome() >= 0);
        checks.holds("zugzwangs()", both.zugzwangs() >= 0);
        dueTooLarge(board(2, 5, "0221030002"), 1, 708);
        dueTooLarge(board(3, 4, "033200003301"), 1, 1413);
        dueTooLarge(board(4, 3, "230300033010"), 2, 1413);
        dueTooLarge(board(5, 3, "313030003203003"), 2, 1286);
    }

    /** The play of the other side has 1501 positions. */
    private static void dueTooLarge(BurningFields x, int side, int positions) {
        due("positions(" + side + ")", x.positions(side), positions);
        checks.holds("wins(" + side + ")", x.wins(side) >= 0);
        checks.holds("length(" + side + ")", x.length(side) >= 0);
        int other = 3 - side;
        due("positions(" + other + ")", x.positions(other), LARGE);
        due("wins(" + other + ")", x.wins(other), LARGE);
        due("bestMove(" + other + ")", x.bestMove(other), LARGE);
        due("length(" + other + ")", x.length(other), LARGE);
        due("outcome()", x.outcome(), LARGE);
        due("zugzwangs()", x.zugzwangs(), LARGE);
    }

    private static void outcomeOf() { // promise 20
        // L . X . R
        // X X X X X
        // . X L . R
        BurningFields x = board(5, 3, "103023333303102");
        due("regions()", x.regions(), 4);
        due("outcomeOf(0)", x.outcomeOf(0), BurningFields.LEFT_WINS);
        due("outcomeOf(1)", x.outcomeOf(1), BurningFields.RIGHT_WINS);
        due("outcomeOf(2)", x.outcomeOf(2), BurningFields.SECOND_WINS);
        due("outcomeOf(3)", x.outcomeOf(3), BurningFields.FIRST_WINS);
        for (int wrong : new int[] {-1, 4, Integer.MIN_VALUE, Integer.MAX_VALUE}) {
            due("outcomeOf(" + wrong + ")", x.outcomeOf(wrong), INVALID);
        }
        due("no values are kept", x.kept(0), 0);
        dueFields("nothing changes", x, "103023333303102");
        due("no region", board(1, 1, "3").outcomeOf(0), INVALID);
        due("too large", board(2, 5, "0221030002").outcomeOf(0), LARGE);
        BurningFields y = board(5, 3, "103003332010000");
        due("the whole board is too large", y.outcome(), LARGE);
        due("its first region is not", y.outcomeOf(0), BurningFields.LEFT_WINS);
        due("its second region is", y.outcomeOf(1), LARGE);
    }

    private static void type() { // promise 24
        BurningFields x = new BurningFields();
        for (int wrong : new int[] {-1, 0, 10, 31, 127, 128, 32 + 256, 65536 + 65, Integer.MIN_VALUE, Integer.MAX_VALUE}) {
            due("type(" + wrong + ")", x.type(wrong), INVALID);
        }
        for (int i = 1; i <= 60; i++) {
            due("type", x.type(i % 2 == 0 ? 32 : 126), i);
        }
        due("a sixty-first one", x.type(65), LIMIT);
        due("a sixty-first one, a wrong one", x.type(31), INVALID);
        due("no change", x.undo(), IMPOSSIBLE);
        due("clearText()", x.clearText(), 60);
        due("type", x.type(65), 1);
    }

    private static void clearText() { // promise 25
        BurningFields x = new BurningFields();
        due("clearText()", x.clearText(), 0);
        write(x, "left 5");
        due("clearText()", x.clearText(), 6);
        due("clearText()", x.clearText(), 0);
        due("fault()", x.fault(), MISSING);
        write(x, "pass;");
        due("nothing is left of the old text", x.fault(), MISSING);
    }

    private static void fault() { // promise 26
        String[] good = {"", "pass;", "left 0;", "right 99;", "free 07;", "burn 8;", "move 1 2 3 4;", "move 01 02 33 44;",
            "pass;pass;", "left 1;right 2;free 3;burn 4;move 1 2 3 4;pass;"};
        for (String text : good) {
            dueFault(text, MISSING);
        }
        String[] bad = {";", " ", "pass", "pass ;", " pass;", "Pass;", "pass 1;", "pas;", "passs;", "left;", "left ;",
            "left 1", "left  1;", "left 1 ;", "left 123;", "left 1 2;", "left a;", "left -1;", "left1;", "leftt 1;",
            "lef 1;", "right;", "free;", "burn;", "up 1;", "move;", "move 1;", "move 1 2;", "move 1 2 3;",
            "move 1 2 3 4 5;", "move 1 2 3 4", "move 1 2 3 444;", "move 1  2 3 4;", "move 1 2 3 ;", "move 1,2,3,4;",
            "left 1:", "left :;", "left /;", "left 1/;", "l", "move 1 2 3 4 ;"};
        for (String text : bad) {
            dueFault(text, 0);
            dueFault("pass;" + text, 5);
            dueFault("left 1;" + text, 7);
            dueFault("move 1 2 3 44;" + text, 14);
        }
        dueFault("pass;;pass;", 5);
        dueFault("pass; pass;", 5);
        dueFault("left 1;left;burn;", 7);
        dueFault("pass;pass;pass;pass;pass;pass;pass;pass;pass;pass;pass;pass;", MISSING);
        dueFault("pass;pass;pass;pass;pass;pass;pass;pass;pass;pass;pass;left;", 55);
        dueFault("pass;pass;pass;pass;pass;pass;pass;pass;pass;pass;pass;pass", 55);
    }

    private static void run() { // promise 27
        BurningFields x = new BurningFields();
        write(x, "left 0;right 8;burn 4;move 1 0 1 2;pass;free 8;");
        due("run()", x.run(), 6);
        dueFields("after run()", x, "013030000");
        due("one change", x.undo(), 0);
        dueFields("undone", x, "000000000");
        due("the text stays", x.run(), 6);
        due("the move is none now", x.run(), 3);
        dueFields("until the first error", x, "113030002");
        due("undo()", x.undo(), 1);
        dueFields("undone", x, "013030000");

        BurningFields none = new BurningFields();
        due("an empty text", none.run(), 0);
        due("is a change", none.undo(), 0);
        write(none, "burn 9;left 0;");
        due("an error at first", none.run(), 0);
        dueFields("nothing is done", none, "000000000");
        due("is a change", none.undo(), 0);
        write(none, "left 0;left 1;left 2;left 3;right 4;");
        due("a fourth one", none.run(), 3);
        dueFields("the first three", none, "111000000");
        write(none, "move 3 0 4 0;");
        due("no side", none.run(), 0);
        write(none, "move 01 00 04 03;pass;move 1 8 7 6;pass;");
        due("no move", none.run(), 2);
        dueFields("one move", none, "011310000");
        write(none, "left 0");
        due("a fault", none.run(), IMPOSSIBLE);
        due("no change", none.undo(), 2);
        dueFields("undone", none, "111000000");

        BurningFields many = new BurningFields();
        for (int f = 0; f < 8; f++) {
            many.setField(f, 3);
        }
        write(many, "free 0;free 1;free 2;");
        due("run()", many.run(), 3);
        dueFields("run()", many, "000333330");
        for (int left = 7; left >= 0; left--) {
            due("undo()", many.undo(), left);
        }
        dueFields("the oldest one was dropped", many, "300000000");

        BurningFields kept = board(3, 1, "103");
        kept.value(0);
        write(kept, "burn 1;free 1;");
        due("run()", kept.run(), 2);
        due("the table stays", kept.kept(0), 1);
        kept.value(0);
        due("a hit", kept.kept(1), 1);
    }

    public static void main(String[] args) {
        newObject();
        reset();
        setField();
        field();
        count();
        isSeen();
        undo();
        move();
        moves();
        moveAt();
        regions();
        regionOf();
        regionInfo();
        value();
        lead();
        kept();
        play();
        largePlay();
        outcomeOf();
        type();
        clearText();
        fault();
        run();
        checks.end();
    }
}
