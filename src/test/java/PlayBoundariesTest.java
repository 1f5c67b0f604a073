/** The boundaries in the document's parts 'Moves' and 'Outcomes' and in promises 17 to 23, sentence by sentence. */
public final class PlayBoundariesTest extends BoardChecks {
    private static final int[] WRONG_SIDES = {0, 3, -1, 4, 257, 258, 1 << 16, Integer.MIN_VALUE, Integer.MAX_VALUE};

    private static void duePlay(BurningFields x, int side, int positions, int wins, int best, int length) {
        due("positions(" + side + ")", x.positions(side), positions);
        due("wins(" + side + ")", x.wins(side), wins);
        due("bestMove(" + side + ")", x.bestMove(side), best);
        due("length(" + side + ")", x.length(side), length);
    }

    /** The same for both sides: fields, and these with the sides exchanged. */
    private static void duePlays(int w, int h, String fields, int positions, int wins, int best, int length) {
        duePlay(board(w, h, fields), 1, positions, wins, best, length);
        duePlay(board(w, h, swapped(fields)), 2, positions, wins, best, length);
    }

    private static void noMove() {
        sentence("A side that is to move and has no move loses: no field, no piece, no free field beside it");
        duePlays(1, 1, "3", 1, 0, MISSING, 0);
        duePlays(1, 1, "0", 1, 0, MISSING, 0);
        duePlays(1, 1, "1", 1, 0, MISSING, 0);
        duePlays(1, 1, "2", 1, 0, MISSING, 0);
        duePlays(3, 3, "000000000", 1, 0, MISSING, 0);
        duePlays(3, 3, "000000200", 1, 0, MISSING, 0);
        duePlays(3, 1, "130", 1, 0, MISSING, 0);
        duePlays(3, 1, "120", 1, 0, MISSING, 0);
        duePlays(5, 3, "111222333000000", 1, 0, MISSING, 0);
        sentence("A side that is to move and has no move loses: though the other side has very many moves");
        for (int side = 1; side <= 2; side++) {
            BurningFields x = board(5, 3, side == 2 ? "210001100000000" : "120002200000000");
            duePlay(x, side, 1, 0, MISSING, 0);
            duePlay(x, 3 - side, LARGE, LARGE, LARGE, LARGE);
            due("outcome()", x.outcome(), LARGE);
            due("zugzwangs()", x.zugzwangs(), LARGE);
            due("outcomeOf(0)", x.outcomeOf(0), LARGE);
        }
        sentence("no move at the end: the last move burns the only free field, or leaves the other side none");
        duePlays(2, 1, "10", 2, 1, 0, 1);
        duePlays(3, 1, "102", 2, 1, 0, 1);
        duePlays(3, 1, "100", 5, 1, 0, 1);
    }

    private static void fourOutcomes() {
        sentence("The outcome of a position is 0, 1, 2 or 3");
        dueOutcome("10", BurningFields.LEFT_WINS, 0);
        dueOutcome("20", BurningFields.RIGHT_WINS, 0);
        dueOutcome("102", BurningFields.FIRST_WINS, 0);
        dueOutcome("12", BurningFields.SECOND_WINS, 1);
        dueOutcome("0", BurningFields.SECOND_WINS, 1);
        dueOutcome("3", BurningFields.SECOND_WINS, 1);
        dueOutcome("1", BurningFields.SECOND_WINS, 1);
        dueOutcome("10302", BurningFields.SECOND_WINS, 2);
    }

    /** A row of fields. */
    private static void dueOutcome(String fields, int outcome, int zugzwangs) {
        for (int turned = 0; turned < 2; turned++) {
            BurningFields x = turned == 0 ? board(fields.length(), 1, fields) : board(1, fields.length(), fields);
            due(fields + ": outcome()", x.outcome(), outcome);
            due(fields + ": zugzwangs()", x.zugzwangs(), zugzwangs);
            int wins = x.wins(1) + 2 * x.wins(2);
            int[] outcomes = {3, 0, 1, 2};
            due(fields + ": wins(1) and wins(2)", outcomes[wins], outcome);
            boolean whole = fields.indexOf('3') < 0;
            due(fields + ": outcomeOf(0)", x.outcomeOf(0),
                    whole ? outcome : fields.equals("3") ? INVALID : BurningFields.LEFT_WINS);
        }
    }

    private static void reachedPositions() {
        sentence("this one, and all that come from it by moves, alternately: one move alone, or one each");
        duePlays(3, 1, "130", 1, 0, MISSING, 0);
        duePlays(5, 1, "10333", 2, 1, 0, 1);
        duePlays(5, 1, "10302", 3, 0, MISSING, 2);
        sentence("alternately: after left's moves right has to move, and has none");
        duePlays(5, 1, "10000", 17, 1, 0, 1);
        sentence("a position that several ways lead to is one");
        duePlays(3, 1, "101", 3, 1, 0, 1);
        duePlays(2, 2, "1002", 9, 0, MISSING, 2);
    }

    /** told: width, height, fields, positions with left and with right to move, or 'more'. */
    private static void dueSize(String told) {
        String[] parts = told.split(" ");
        int w = Integer.parseInt(parts[0]), h = Integer.parseInt(parts[1]);
        for (int turn = 0; turn < 2; turn++) {
            String fields = turn == 0 ? parts[2] : swapped(parts[2]);
            BurningFields x = board(w, h, fields);
            Model m = new Model();
            m.reset(w, h);
            for (int f = 0; f < fields.length(); f++) {
                m.setField(f, fields.charAt(f) - '0');
            }
            boolean fits = true;
            for (int side = 1; side <= 2; side++) {
                String number = parts[2 + (turn == 0 ? side : 3 - side)];
                boolean small = !number.equals("more") && Integer.parseInt(number) <= 1500;
                fits &= small;
                String call = fields + ", side " + side + ": ";
                due(call + "positions", x.positions(side), small ? Integer.parseInt(number) : LARGE);
                due(call + "wins", x.wins(side), small ? m.wins(side) : LARGE);
                due(call + "bestMove", x.bestMove(side), small ? m.bestMove(side) : LARGE);
                due(call + "length", x.length(side), small ? m.length(side) : LARGE);
            }
            due(fields + ": outcome()", x.outcome(), fits ? m.outcome() : LARGE);
            due(fields + ": zugzwangs()", x.zugzwangs(), fits ? m.zugzwangs() : LARGE);
            if (x.regions() == 1) {
                due(fields + ": outcomeOf(0)", x.outcomeOf(0), fits ? m.outcome() : LARGE);
            }
            due("no questions are changes", x.undo(), Math.min(7, fields.replace("0", "").length()));
        }
    }

    private static void manyPositions() {
        sentence("A question is too large if more than 1500 positions can be reached from one of those that it begins with");
        String[] boards = {"5 2 1000030320 1500 896", "3 4 000201303132 1500 1500", "3 3 100000223 1500 more",
            "5 3 201332003030033 1500 more", "2 5 0221030002 708 1501", "4 3 303130000203 1413 1501",
            "5 3 030323300030103 1501 1413", "3 4 000113230030 1501 21", "4 3 303203012010 1501 more",
            "3 5 033023031003033 1213 1501", "5 3 100000000000002 more more", "5 3 121212000000000 more more"};
        for (String told : boards) {
            dueSize(told);
        }
        sentence("TOO_LARGE rather than NOT_FOUND: there is no winning move, but it is not looked for");
        BurningFields lost = board(3, 5, "020303033103230");
        due("positions(1) would be 1501", lost.positions(1), LARGE);
        due("positions(2)", lost.positions(2), 1337);
        due("bestMove(1)", lost.bestMove(1), LARGE);
        // Left has 5, 2 and 3 moves there, and loses with each; 3168, 4408 and 5180 positions can be reached.
        duePlays(5, 3, "003023320030130", LARGE, LARGE, LARGE, LARGE);
        duePlays(5, 3, "313000230030000", LARGE, LARGE, LARGE, LARGE);
        duePlays(3, 5, "002000003330031", LARGE, LARGE, LARGE, LARGE);
        sentence("too large though the first move wins at once");
        BurningFields won = board(5, 3, "201003300000000");
        duePlay(won, 1, LARGE, LARGE, LARGE, LARGE);
        due("moveAt(1, 0, 0)", won.moveAt(1, 0, 0), 2);
        due("move(1, 2, 1, 2), the first one", won.move(1, 2, 1, 2), 0);
        duePlay(won, 2, 1, 0, MISSING, 0);
        due("undo()", won.undo(), 5);
        duePlay(won, 1, LARGE, LARGE, LARGE, LARGE);
    }

    private static void regionsAlone() {
        sentence("outcomeOf: all fields outside of it count as burned; its own positions are counted alone");
        // Each region with 1500 positions at most, and one more.
        dueRegion(5, 3, "032233300130300", 1, 1206, 1500);
        dueRegion(5, 3, "033123300300023", 1, 1111, 1500);
        dueRegion(3, 5, "033120002033331", 0, 1283, 1500);
        dueRegion(3, 5, "030230000033131", 0, 1221, 1501);
        dueRegion(3, 5, "103300002330033", 0, 1413, 1501);
        BurningFields x = board(3, 5, "102333001300001");
        due("outcomeOf(0)", x.outcomeOf(0), BurningFields.FIRST_WINS);
        due("outcomeOf(1)", x.outcomeOf(1), BurningFields.LEFT_WINS);
        BurningFields y = board(5, 3, "103003332010000");
        due("outcome()", y.outcome(), LARGE);
        due("outcomeOf(0)", y.outcomeOf(0), BurningFields.LEFT_WINS);
        due("outcomeOf(1)", y.outcomeOf(1), LARGE);
        due("outcomeOf(2)", y.outcomeOf(2), INVALID);
        sentence("outcomeOf: a region without a piece, and one field");
        due("outcomeOf(0)", board(5, 3, "000000000000000").outcomeOf(0), BurningFields.SECOND_WINS);
        due("outcomeOf(1)", board(3, 1, "031").outcomeOf(1), BurningFields.SECOND_WINS);
    }

    private static void dueRegion(int w, int h, String fields, int region, int left, int right) {
        for (int turn = 0; turn < 2; turn++) {
            BurningFields x = board(w, h, turn == 0 ? fields : swapped(fields));
            BurningFields alone = new BurningFields();
            alone.reset(w, h);
            for (int f = 0; f < fields.length(); f++) {
                alone.setField(f, x.regionOf(f) == region ? x.field(f) : 3);
            }
            due("positions(1) alone", alone.positions(1 + turn), left);
            due("positions(2) alone", alone.positions(2 - turn), right <= 1500 ? right : LARGE);
            int outcome = x.outcomeOf(region);
            due(fields + ": outcomeOf(" + region + ")", outcome, right <= 1500 ? alone.outcome() : LARGE);
            checks.holds("too large or not", outcome == LARGE == right > 1500);
        }
    }

    private static void bestMoves() {
        sentence("bestMove: the first one after which the other side, to move, loses: the first, a later, the last one");
        due("bestMove(1)", board(3, 1, "102").bestMove(1), 0);
        int[] found = new int[3];
        for (int number = 0; number < 1 << 12; number++) {
            StringBuilder fields = new StringBuilder();
            for (int f = 0; f < 6; f++) {
                fields.append(number >> 2 * f & 3);
            }
            if (fields.indexOf("1") < 0 || fields.indexOf("2") < 0) {
                continue;
            }
            BurningFields x = new BurningFields();
            x.reset(3, 2);
            for (int f = 0; f < 6; f++) {
                x.setField(f, fields.charAt(f) - '0');
            }
            int side = 1 + number % 2, n = x.moves(side), best = x.bestMove(side);
            int first = MISSING;
            for (int i = n - 1; i >= 0; i--) {
                x.move(side, x.moveAt(side, i, 0), x.moveAt(side, i, 1), x.moveAt(side, i, 2));
                if (x.wins(3 - side) == 0) {
                    first = i;
                }
                x.undo();
            }
            due(fields + ": bestMove(" + side + ")", best, first);
            due(fields + ": wins(" + side + ")", x.wins(side), first == MISSING ? 0 : 1);
            if (n > 1 && best >= 0) {
                found[best == 0 ? 0 : best == n - 1 ? 2 : 1]++;
            }
        }
        checks.holds("all these were there", found[0] > 0 && found[1] > 0 && found[2] > 0);
        // L . X
        // . X X      The move from 0 to 3 that burns 7 leaves right none at once; an earlier one wins, too.
        // X . R
        sentence("bestMove: the first winning move, though a later one ends it sooner");
        BurningFields x = board(3, 3, "103033302");
        due("length(1)", x.length(1), 1);
        due("bestMove(1)", x.bestMove(1), 1);
        due("to", x.moveAt(1, 1, 1), 1);
        due("burnt", x.moveAt(1, 1, 2), 3);
        due("right has a move then", x.move(1, 0, 1, 3), 1);
        due("but loses", x.wins(2), 0);
        due("later", x.length(2), 2);
        x.undo();
        due("the later one", x.move(1, 0, 3, 7), 0);
        due("length(2)", x.length(2), 0);
    }

    private static void lengths() {
        sentence("length: the winning side ends it as soon as possible: at once, though it could go on");
        duePlays(5, 1, "10000", 17, 1, 0, 1);
        sentence("length: the losing side ends it as late as possible");
        BurningFields x = board(5, 3, "100333333320333");
        due("left has two moves, right one: length(2)", x.length(2), 2);
        due("length(1)", x.length(1), 3);
        sentence("length: the winning side may not make a move that loses, though it would end sooner");
        BurningFields y = board(3, 2, "100002");
        due("wins(1)", y.wins(1), 1);
        due("length(1)", y.length(1), 3);
        boolean sooner = false;
        int n = y.moves(1);
        for (int i = 0; i < n; i++) {
            y.move(1, y.moveAt(1, i, 0), y.moveAt(1, i, 1), y.moveAt(1, i, 2));
            sooner |= y.wins(2) == 1 && y.length(2) < 2;
            y.undo();
        }
        checks.holds("there is such a move", sooner);
    }

    private static void zugzwangs() {
        sentence("zugzwangs: contents that belong to the positions of both sides, and are lost for both");
        due("nothing can move", board(5, 3, "000000000000000").zugzwangs(), 1);
        due("nobody can move", board(2, 1, "12").zugzwangs(), 1);
        due("left alone can move: its last positions have right to move", board(3, 1, "100").zugzwangs(), 0);
        due("right alone can move", board(3, 1, "200").zugzwangs(), 0);
        due("who begins wins", board(3, 1, "102").zugzwangs(), 0);
        due("one move each", board(5, 1, "10302").zugzwangs(), 2);
        due("one of left and none of right", board(5, 1, "10332").zugzwangs(), 0);
        sentence("too large: each of both sides counts alone, not both together");
        BurningFields most = board(3, 4, "000201303132");
        due("positions(1)", most.positions(1), 1500);
        due("positions(2)", most.positions(2), 1500);
        checks.holds("zugzwangs()", most.zugzwangs() >= 0);
    }

    private static void wrongSides() {
        sentence("INVALID_ARGUMENT if side is out of range, whether the question is small or too large");
        for (String fields : new String[] {"100000000000002", "333333333333333", "000000000000000"}) {
            BurningFields x = board(5, 3, fields);
            for (int side : WRONG_SIDES) {
                duePlay(x, side, INVALID, INVALID, INVALID, INVALID);
                due("moves(" + side + ")", x.moves(side), INVALID);
                due("moveAt(" + side + ", 0, 0)", x.moveAt(side, 0, 0), INVALID);
                due("move(" + side + ", 0, 1, 0)", x.move(side, 0, 1, 0), INVALID);
            }
        }
    }

    public static void main(String[] args) {
        noMove();
        fourOutcomes();
        reachedPositions();
        manyPositions();
        regionsAlone();
        bestMoves();
        lengths();
        zugzwangs();
        wrongSides();
        checks.end();
    }
}
