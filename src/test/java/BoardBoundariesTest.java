import java.util.ArrayList;
import java.util.List;

/** The boundaries in the document's parts 'Board' and 'Moves' and in promises 1 to 6 and 8 to 10, sentence by sentence. */
public final class BoardBoundariesTest extends BoardChecks {
    private static final int SMALLEST = Integer.MIN_VALUE, GREATEST = Integer.MAX_VALUE;

    /** All sizes that the document allows: 22 of them. */
    private static List<int[]> sizes() {
        List<int[]> list = new ArrayList<>();
        for (int w = 1; w <= 5; w++) {
            for (int h = 1; h <= 5 && w * h <= 15; h++) {
                list.add(new int[] {w, h});
            }
        }
        return list;
    }

    private static void initialSize() {
        sentence("The board has a width W and a height H (..; initially 3 and 3)");
        BurningFields x = new BurningFields();
        due("field(8)", x.field(8), 0);
        due("field(9)", x.field(9), INVALID);
        due("reset(3, 3)", x.reset(3, 3), 33);
        sentence("initially all are free");
        BurningFields y = new BurningFields();
        dueFields("a new object", y, "000000000");
        due("count(FREE)", y.count(0), 9);
        for (int what = 1; what <= 3; what++) {
            due("count(" + what + ")", y.count(what), 0);
        }
    }

    private static void widthAndHeight() {
        sentence("a width W and a height H (1 to 5 each");
        int previous = 33;
        BurningFields x = new BurningFields();
        for (int n = 1; n <= 5; n++) {
            due("reset(" + n + ", 1)", x.reset(n, 1), previous);
            due("reset(1, " + n + ")", x.reset(1, n), 10 * n + 1);
            previous = 10 + n;
        }
        int[] wrong = {0, 6, -1, -5, 7, 15, 16, 33, SMALLEST, SMALLEST + 1, GREATEST, GREATEST - 1, 1 << 16, (1 << 16) + 3};
        for (int n : wrong) {
            for (int other = 1; other <= 5; other++) {
                due("reset(" + n + ", " + other + ")", x.reset(n, other), INVALID);
                due("reset(" + other + ", " + n + ")", x.reset(other, n), INVALID);
            }
            due("reset(" + n + ", " + n + ")", x.reset(n, n), INVALID);
        }
        dueFields("the size stays", x, "00000");
        due("reset(1, 1)", x.reset(1, 1), 15);
    }

    private static void product() {
        sentence("W * H at most 15");
        BurningFields x = new BurningFields();
        due("reset(5, 3)", x.reset(5, 3), 33);
        due("field(14)", x.field(14), 0);
        due("field(15)", x.field(15), INVALID);
        due("reset(3, 5)", x.reset(3, 5), 53);
        due("field(14)", x.field(14), 0);
        due("field(15)", x.field(15), INVALID);
        due("reset(4, 3)", x.reset(4, 3), 35);
        due("reset(3, 4)", x.reset(3, 4), 43);
        int[][] tooLarge = {{4, 4}, {5, 4}, {4, 5}, {5, 5}};
        for (int[] size : tooLarge) {
            due("reset(" + size[0] + ", " + size[1] + ")", x.reset(size[0], size[1]), INVALID);
        }
        // The products of these, as ints, are 0 to 15.
        int[][] wrapping = {{1 << 16, 1 << 16}, {5, 858993460}, {858993460, 5}, {3, 1431655766}, {1431655766, 3},
            {-1, -1}, {-3, -5}, {-5, -3}, {2, SMALLEST}, {SMALLEST, 2}, {4, 1 << 30}, {GREATEST, GREATEST}};
        for (int[] size : wrapping) {
            due("reset(" + size[0] + ", " + size[1] + ")", x.reset(size[0], size[1]), INVALID);
        }
        due("reset(1, 1)", x.reset(1, 1), 34);
    }

    private static void smallestBoard() {
        sentence("a board of 1 times 1");
        BurningFields x = new BurningFields();
        due("reset(1, 1)", x.reset(1, 1), 33);
        dueFields("one field", x, "0");
        due("isSeen(0, 0)", x.isSeen(0, 0), 0);
        due("isSeen(0, 1)", x.isSeen(0, 1), INVALID);
        due("regions()", x.regions(), 1);
        due("value(0)", x.value(0), 0);
        due("positions(1)", x.positions(1), 1);
        due("outcome()", x.outcome(), BurningFields.SECOND_WINS);
        due("zugzwangs()", x.zugzwangs(), 1);
        due("setField(0, 1)", x.setField(0, 1), 0);
        due("moves(1)", x.moves(1), 0);
        due("move(1, 0, 0, 0)", x.move(1, 0, 0, 0), IMPOSSIBLE);
        due("value(0)", x.value(0), 0);
        due("kept(0)", x.kept(0), 1);
        due("setField(0, 3)", x.setField(0, 3), 1);
        due("regions()", x.regions(), 0);
        due("regionOf(0)", x.regionOf(0), MISSING);
        due("value(0)", x.value(0), INVALID);
        due("lead()", x.lead(), 0);
        due("outcomeOf(0)", x.outcomeOf(0), INVALID);
        due("zugzwangs()", x.zugzwangs(), 1);
    }

    private static void fieldNumbers() {
        sentence("Its fields are numbered from 0 to W * H - 1");
        for (int[] size : sizes()) {
            BurningFields x = new BurningFields();
            x.reset(size[0], size[1]);
            int last = size[0] * size[1] - 1;
            String board = size[0] + " times " + size[1] + ": ";
            due(board + "setField(last, 3)", x.setField(last, 3), 0);
            due(board + "field(last)", x.field(last), 3);
            due(board + "field(0)", x.field(0), last == 0 ? 3 : 0);
            due(board + "count(3)", x.count(3), 1);
            for (int beyond : new int[] {-1, last + 1, last + 2, 16, 31, 32, 32 + last, 64, SMALLEST, GREATEST}) {
                due(board + "field(" + beyond + ")", x.field(beyond), INVALID);
                due(board + "setField(" + beyond + ", 0)", x.setField(beyond, 0), INVALID);
                due(board + "regionOf(" + beyond + ")", x.regionOf(beyond), INVALID);
                due(board + "isSeen(0, " + beyond + ")", x.isSeen(0, beyond), INVALID);
                due(board + "isSeen(" + beyond + ", 0)", x.isSeen(beyond, 0), INVALID);
                due(board + "isSeen(" + beyond + ", " + beyond + ")", x.isSeen(beyond, beyond), INVALID);
                due(board + "move(1, " + beyond + ", 0, 0)", x.move(1, beyond, 0, 0), INVALID);
                due(board + "move(1, 0, " + beyond + ", 0)", x.move(1, 0, beyond, 0), INVALID);
                due(board + "move(1, 0, 0, " + beyond + ")", x.move(1, 0, 0, beyond), INVALID);
            }
            due(board + "nothing else has changed", x.count(0), last);
        }
    }

    private static void places() {
        sentence("row by row: field W * y + x has the place (x, y); b is seen from a on a free board");
        for (int[] size : sizes()) {
            BurningFields x = new BurningFields();
            x.reset(size[0], size[1]);
            int w = size[0];
            int fields = w * size[1];
            for (int a = 0; a < fields; a++) {
                for (int b = 0; b < fields; b++) {
                    int dx = Math.abs(a % w - b % w), dy = Math.abs(a / w - b / w);
                    int want = a != b && (dx == 0 || dy == 0 || dx == dy) ? 1 : 0;
                    due(w + " times " + size[1] + ": isSeen(" + a + ", " + b + ")", x.isSeen(a, b), want);
                }
            }
        }
    }

    private static void neighbours() {
        sentence("Two different fields are neighbours if their x differ by at most 1, and their y, too");
        for (int[] size : sizes()) {
            int w = size[0];
            int fields = w * size[1];
            for (int a = 0; a < fields; a++) {
                for (int b = a + 1; b < fields; b++) {
                    BurningFields x = new BurningFields();
                    x.reset(w, size[1]);
                    for (int f = 0; f < fields; f++) {
                        if (f != a && f != b) {
                            x.setField(f, 3);
                        }
                    }
                    boolean near = Math.abs(a % w - b % w) <= 1 && Math.abs(a / w - b / w) <= 1;
                    String board = w + " times " + size[1] + ", " + a + " and " + b + ": ";
                    due(board + "regions()", x.regions(), near ? 1 : 2);
                    due(board + "regionOf(a)", x.regionOf(a), 0);
                    due(board + "regionOf(b)", x.regionOf(b), near ? 0 : 1);
                }
            }
        }
    }

    private static void contents() {
        sentence("A field is 0 free, 1 with a left piece, 2 with a right piece, or 3 burned");
        BurningFields x = new BurningFields();
        for (int before = 0; before <= 3; before++) {
            for (int after = 0; after <= 3; after++) {
                x.setField(4, before);
                due("setField(4, " + after + ")", x.setField(4, after), before);
                due("field(4)", x.field(4), after);
                due("count(" + after + ")", x.count(after), after == 0 ? 9 : 1);
            }
        }
        for (int wrong : new int[] {-1, 4, 5, 256, 1 << 16, -4, SMALLEST, GREATEST}) {
            due("setField(4, " + wrong + ")", x.setField(4, wrong), INVALID);
            due("count(" + wrong + ")", x.count(wrong), INVALID);
        }
        due("field(4)", x.field(4), 3);
        sentence("count: the number of fields with these contents, none and all");
        BurningFields burned = board(2, 2, "3333");
        due("count(3)", burned.count(3), 4);
        due("count(0)", burned.count(0), 0);
        BurningFields free = board(5, 3, "000000000000000");
        due("count(0)", free.count(0), 15);
        due("count(3)", free.count(3), 0);
    }

    private static void pieces() {
        sentence("A side, 1 (left) or 2 (right), has at most 3 pieces");
        for (int side = 1; side <= 2; side++) {
            BurningFields x = board(3, 3, side == 1 ? "110003000" : "220003000");
            int other = 3 - side;
            due("a third piece", x.setField(2, side), 0);
            due("a fourth piece", x.setField(3, side), LIMIT);
            due("a fourth piece on a burned field", x.setField(5, side), LIMIT);
            due("field(3)", x.field(3), 0);
            due("field(5)", x.field(5), 3);
            for (int f = 0; f < 3; f++) {
                due("the same piece again is no fourth one", x.setField(f, side), side);
            }
            due("count", x.count(side), 3);
            due("the other side", x.setField(3, other), 0);
            due("the other side", x.setField(4, other), 0);
            due("on a burned field", x.setField(5, other), 3);
            due("the other side has 3, too", x.setField(6, other), LIMIT);
            due("a fourth one in place of a piece of the other side", x.setField(3, side), LIMIT);
            due("and the other way round", x.setField(0, other), LIMIT);
            due("field(3)", x.field(3), other);
            due("field(0)", x.field(0), side);
            due("one less", x.setField(0, 3), side);
            due("a third one in place of a piece of the other side", x.setField(3, side), other);
            due("now the other side has 2", x.setField(6, other), 0);
            due("count", x.count(side), 3);
            due("count", x.count(other), 3);
            due("freed", x.setField(1, 0), side);
            due("again a third one", x.setField(8, side), 0);
            due("a fourth one", x.setField(1, side), LIMIT);
        }
        sentence("a side keeps its pieces when it moves");
        BurningFields y = board(3, 3, "111000000");
        checks.holds("move(1, 0, 3, 0)", y.move(1, 0, 3, 0) == 0);
        due("count(1)", y.count(1), 3);
        due("a fourth one", y.setField(0, 1), LIMIT);
        due("undo()", y.undo(), 4);
        due("a fourth one", y.setField(3, 1), LIMIT);
    }

    private static void seen() {
        sentence("by one or more steps: no field is seen from itself");
        for (int what = 0; what <= 3; what++) {
            BurningFields x = new BurningFields();
            x.setField(4, what);
            for (int f = 0; f < 9; f++) {
                due("isSeen(" + f + ", " + f + ")", x.isSeen(f, f), 0);
            }
            sentence("all fields after a, b included: a may have any contents, b has to be free");
            for (int f = 0; f < 9; f++) {
                if (f != 4) {
                    due("isSeen(4, " + f + ")", x.isSeen(4, f), 1);
                    due("isSeen(" + f + ", 4)", x.isSeen(f, 4), what == 0 ? 1 : 0);
                }
            }
            sentence("such that all fields after a are free: one between them that is not");
            for (int f = 0; f < 9; f++) {
                due("isSeen(" + f + ", " + (8 - f) + ")", x.isSeen(f, 8 - f), what == 0 && f != 4 ? 1 : 0);
            }
            sentence("by one or more steps: no field is seen from itself");
        }
        sentence("by one or more steps: the longest ways, and each field of them");
        for (int what = 1; what <= 3; what++) {
            for (int at = 0; at < 5; at++) {
                BurningFields row = new BurningFields();
                row.reset(5, 1);
                row.setField(at, what);
                BurningFields column = new BurningFields();
                column.reset(1, 5);
                column.setField(at, what);
                for (int a = 0; a < 5; a++) {
                    for (int b = 0; b < 5; b++) {
                        boolean between = at == b || (at > Math.min(a, b) && at < Math.max(a, b));
                        int want = a != b && !between ? 1 : 0;
                        due("isSeen(" + a + ", " + b + ") with " + what + " at " + at, row.isSeen(a, b), want);
                        due("isSeen(" + a + ", " + b + ") with " + what + " at " + at, column.isSeen(a, b), want);
                    }
                }
            }
        }
    }

    private static void dueMoves(BurningFields x, int side, int[][] want) {
        due("moves(" + side + ")", x.moves(side), want.length);
        for (int i = 0; i < want.length; i++) {
            for (int what = 0; what < 3; what++) {
                due("moveAt(" + side + ", " + i + ", " + what + ")", x.moveAt(side, i, what), want[i][what]);
            }
        }
        for (int i : new int[] {want.length, want.length + 1, 588, 589, 1500, GREATEST}) {
            due("moveAt(" + side + ", " + i + ", 0)", x.moveAt(side, i, 0), MISSING);
        }
        for (int i : new int[] {-1, SMALLEST}) {
            due("moveAt(" + side + ", " + i + ", 0)", x.moveAt(side, i, 0), INVALID);
        }
    }

    private static void movesOfASide() {
        sentence("burnt is seen from 'to' when the piece has left 'from' (which is free then): the least move");
        dueMoves(board(2, 1, "10"), 1, new int[][] {{0, 1, 0}});
        dueMoves(board(1, 2, "02"), 2, new int[][] {{1, 0, 1}});
        sentence("when the piece has left 'from': it burns 'from' and beyond it");
        dueMoves(board(4, 1, "0103"), 1, new int[][] {{1, 0, 1}, {1, 0, 2}, {1, 2, 0}, {1, 2, 1}});
        sentence("and stands on 'to': it burns neither 'to' nor another piece nor a burned field");
        dueMoves(board(4, 1, "2101"), 1, new int[][] {{1, 2, 1}, {3, 2, 3}});
        dueMoves(board(5, 1, "31023"), 1, new int[][] {{1, 2, 1}});
        sentence("A move of a side consists of a field 'from' with one of its pieces: none, none that can move");
        dueMoves(board(3, 3, "000000000"), 1, new int[0][]);
        dueMoves(board(3, 3, "000000000"), 2, new int[0][]);
        dueMoves(board(3, 3, "000010000"), 2, new int[0][]);
        dueMoves(board(3, 1, "130"), 1, new int[0][]);
        dueMoves(board(3, 1, "120"), 1, new int[0][]);
        dueMoves(board(3, 1, "110"), 1, new int[][] {{1, 2, 1}});
        dueMoves(board(1, 1, "1"), 1, new int[0][]);
        dueMoves(board(5, 3, "111222333333333"), 1, new int[0][]);
    }

    private static void orderOfMoves() {
        sentence("Moves are ordered by from, then to, then burnt");
        BurningFields x = board(5, 3, "100000310000001");
        int n = x.moves(1);
        due("moves(1)", n, 133);
        int[] before = {-1, -1, -1};
        for (int i = 0; i < n; i++) {
            int[] now = {x.moveAt(1, i, 0), x.moveAt(1, i, 1), x.moveAt(1, i, 2)};
            boolean later = now[0] != before[0] ? now[0] > before[0]
                    : now[1] != before[1] ? now[1] > before[1] : now[2] > before[2];
            checks.holds("move " + i + " comes after the one before it", later);
            before = now;
        }
        sentence("NOT_FOUND if there are not so many moves");
        BurningFields y = board(5, 3, "100000310000001");
        for (int what = 0; what < 3; what++) {
            checks.holds("the last move is there", y.moveAt(1, n - 1, what) >= 0);
            due("moveAt(1, " + n + ", " + what + ")", y.moveAt(1, n, what), MISSING);
            due("moveAt(2, 0, " + what + ")", y.moveAt(2, 0, what), MISSING);
            due("moveAt(1, greatest, " + what + ")", y.moveAt(1, GREATEST, what), MISSING);
        }
        due("the last move's from", y.moveAt(1, n - 1, 0), 14);
    }

    private static void makingMoves() {
        sentence("NOT_POSSIBLE if this is no move of the side");
        BurningFields x = board(3, 3, "100020000");
        int made = 0;
        for (int side = 1; side <= 2; side++) {
            for (int from = 0; from < 9; from++) {
                for (int to = 0; to < 9; to++) {
                    for (int burnt = 0; burnt < 9; burnt++) {
                        made += tryMove(side, from, to, burnt);
                    }
                }
            }
        }
        due("all triples that are moves", made, x.moves(1) + x.moves(2));
        sentence("the number of moves that the other side has then: none");
        due("move(1, 0, 1, 0)", board(3, 1, "100").move(1, 0, 1, 0), 0);
        due("move(1, 0, 1, 0)", board(3, 1, "102").move(1, 0, 1, 0), 0);
        due("move(2, 2, 1, 2)", board(3, 1, "102").move(2, 2, 1, 2), 0);
        sentence("a side may move again in the method move");
        BurningFields y = board(3, 2, "100000");
        due("move(1, 0, 1, 0)", y.move(1, 0, 1, 0), 0);
        due("move(1, 1, 2, 1)", y.move(1, 1, 2, 1), 0);
        dueFields("after two moves", y, "331000");
    }

    /** One move on a board of its own: answers 1 if it is one. */
    private static int tryMove(int side, int from, int to, int burnt) {
        BurningFields x = new BurningFields();
        x.setField(0, 1);
        x.setField(4, 2);
        String call = "move(" + side + ", " + from + ", " + to + ", " + burnt + ")";
        int answer = x.move(side, from, to, burnt);
        if (answer < 0) {
            due(call, answer, IMPOSSIBLE);
            dueFields(call, x, "100020000");
            return 0;
        }
        due(call + ": the moves of the other side", answer, x.moves(3 - side));
        due(call + ": from", x.field(from), burnt == from ? 3 : 0);
        due(call + ": to", x.field(to), side);
        due(call + ": burnt", x.field(burnt), 3);
        due(call + ": free fields", x.count(0), 6);
        return 1;
    }

    public static void main(String[] args) {
        initialSize();
        widthAndHeight();
        product();
        smallestBoard();
        fieldNumbers();
        places();
        neighbours();
        contents();
        pieces();
        seen();
        movesOfASide();
        orderOfMoves();
        makingMoves();
        checks.end();
    }
}
