import java.util.function.Supplier;
import java.util.function.ToIntFunction;

/** Which error a call answers, and that a call that answers an error changes nothing, for each method and error. */
public final class RefusedCallsTest extends BoardChecks {
    private static final int SMALLEST = Integer.MIN_VALUE, GREATEST = Integer.MAX_VALUE;
    private static final int[] WRONG_SIDES = {0, 3, -1, SMALLEST, GREATEST};

    private static Supplier<BurningFields> maker;
    private static String unchanged;

    /** From now on calls are refused by objects that this one makes, each by a new one. */
    private static void given(Supplier<BurningFields> next) {
        maker = next;
        unchanged = allOf(next.get());
    }

    /** The call answers this error, three times, and leaves all as it is. */
    private static void refused(String call, int error, ToIntFunction<BurningFields> made) {
        BurningFields x = maker.get();
        for (int i = 0; i < 3; i++) {
            due(call, made.applyAsInt(x), error);
        }
        String after = allOf(x);
        checks.holds(call + " changed something:\n" + unchanged + "\n" + after, after.equals(unchanged));
    }

    private static void tell(StringBuilder told, BurningFields x) {
        for (int f = 0; x.field(f) >= 0; f++) {
            told.append(x.field(f));
        }
        told.append(" moves ").append(x.moves(1)).append(' ').append(x.moves(2));
        told.append(" values");
        for (int r = 0; r < x.regions(); r++) {
            told.append(' ').append(x.value(r));
        }
        told.append(" kept ").append(x.kept(0)).append(' ').append(x.kept(1)).append('\n');
    }

    /** All that can be asked about an object: the last thing that is done with it. */
    private static String allOf(BurningFields x) {
        StringBuilder told = new StringBuilder();
        told.append("kept ").append(x.kept(0)).append(' ').append(x.kept(1)).append('\n');
        tell(told, x);
        told.append("fault ").append(x.fault()).append(" run ").append(x.run()).append('\n');
        tell(told, x);
        told.append("text of ").append(x.clearText()).append('\n');
        for (int left = x.undo(); left >= 0; left = x.undo()) {
            told.append("undo ").append(left).append(' ');
            tell(told, x);
        }
        return told.append("size ").append(x.reset(1, 1)).toString();
    }

    private static void wrongArguments() {
        for (int wrong : new int[] {0, 6, -1, SMALLEST, GREATEST}) {
            refused("reset(wrong, 1)", INVALID, x -> x.reset(wrong, 1));
            refused("reset(1, wrong)", INVALID, x -> x.reset(1, wrong));
        }
        refused("reset(4, 4)", INVALID, x -> x.reset(4, 4));
        for (int wrong : new int[] {-1, 15, SMALLEST, GREATEST}) {
            refused("setField(wrong, 0)", INVALID, x -> x.setField(wrong, 0));
            refused("setField(wrong, 1)", INVALID, x -> x.setField(wrong, 1));
            refused("setField(wrong, 4)", INVALID, x -> x.setField(wrong, 4));
            refused("field(wrong)", INVALID, x -> x.field(wrong));
            refused("isSeen(wrong, 0)", INVALID, x -> x.isSeen(wrong, 0));
            refused("isSeen(0, wrong)", INVALID, x -> x.isSeen(0, wrong));
            refused("move(1, wrong, 0, 0)", INVALID, x -> x.move(1, wrong, 0, 0));
            refused("move(2, 0, wrong, 0)", INVALID, x -> x.move(2, 0, wrong, 0));
            refused("move(2, 0, 0, wrong)", INVALID, x -> x.move(2, 0, 0, wrong));
            refused("regionOf(wrong)", INVALID, x -> x.regionOf(wrong));
            refused("regionInfo(wrong, 0)", INVALID, x -> x.regionInfo(wrong, 0));
            refused("value(wrong)", INVALID, x -> x.value(wrong));
            refused("outcomeOf(wrong)", INVALID, x -> x.outcomeOf(wrong));
        }
        for (int wrong : new int[] {-1, 4, SMALLEST, GREATEST}) {
            refused("setField(0, wrong)", INVALID, x -> x.setField(0, wrong));
            refused("count(wrong)", INVALID, x -> x.count(wrong));
        }
        for (int wrong : WRONG_SIDES) {
            refused("move(wrong, 0, 0, 0)", INVALID, x -> x.move(wrong, 0, 0, 0));
            refused("moves(wrong)", INVALID, x -> x.moves(wrong));
            refused("moveAt(wrong, 0, 0)", INVALID, x -> x.moveAt(wrong, 0, 0));
            refused("moveAt(wrong, greatest, 0)", INVALID, x -> x.moveAt(wrong, GREATEST, 0));
            refused("positions(wrong)", INVALID, x -> x.positions(wrong));
            refused("wins(wrong)", INVALID, x -> x.wins(wrong));
            refused("bestMove(wrong)", INVALID, x -> x.bestMove(wrong));
            refused("length(wrong)", INVALID, x -> x.length(wrong));
        }
        for (int wrong : new int[] {-1, 3, SMALLEST, GREATEST}) {
            refused("moveAt(1, 0, wrong)", INVALID, x -> x.moveAt(1, 0, wrong));
            refused("moveAt(1, greatest, wrong)", INVALID, x -> x.moveAt(1, GREATEST, wrong));
        }
        refused("moveAt(1, -1, 0)", INVALID, x -> x.moveAt(1, -1, 0));
        refused("moveAt(2, smallest, 2)", INVALID, x -> x.moveAt(2, SMALLEST, 2));
        refused("regionInfo(0, -1)", INVALID, x -> x.regionInfo(0, -1));
        refused("regionInfo(0, 6)", INVALID, x -> x.regionInfo(0, 6));
        refused("kept(-1)", INVALID, x -> x.kept(-1));
        refused("kept(2)", INVALID, x -> x.kept(2));
        refused("type(31)", INVALID, x -> x.type(31));
        refused("type(127)", INVALID, x -> x.type(127));
    }

    private static void newObject() {
        given(BurningFields::new);
        wrongArguments();
        refused("undo()", IMPOSSIBLE, x -> x.undo());
        refused("move(1, 0, 1, 2)", IMPOSSIBLE, x -> x.move(1, 0, 1, 2));
        refused("moveAt(1, 0, 0)", MISSING, x -> x.moveAt(1, 0, 0));
        refused("value(1)", INVALID, x -> x.value(1));
        refused("bestMove(1)", MISSING, x -> x.bestMove(1));
        refused("fault()", MISSING, x -> x.fault());
    }

    /** Values of an object that has changed since; then a full history, and a full text with a fault. */
    private static BurningFields sharedAndLarge() {
        BurningFields x = board(5, 3, "103330333333202");
        x.lead();
        x.lead();
        x.setField(2, 0);
        x.setField(4, 3);
        for (int f : new int[] {7, 8, 11, 10}) {
            x.setField(f, 0);
        }
        x.setField(6, 1);
        x.setField(1, 1);
        x.setField(3, 2);
        write(x, "burn 2;left 9;pass;pass;pass;pass;pass;pass;pass;pass;past;~");
        return x;
    }

    private static void largeOnes() {
        sentence("INVALID_ARGUMENT is returned rather than NOT_POSSIBLE, LIMIT_REACHED, TOO_LARGE or NOT_FOUND");
        given(RefusedCallsTest::sharedAndLarge);
        wrongArguments();
        refused("value(1)", INVALID, x -> x.value(1));
        refused("outcomeOf(1)", INVALID, x -> x.outcomeOf(1));
        sentence("NOT_POSSIBLE rather than TOO_LARGE");
        refused("value(0)", IMPOSSIBLE, x -> x.value(0));
        refused("lead()", IMPOSSIBLE, x -> x.lead());
        sentence("a refused call changes nothing: LIMIT_REACHED");
        refused("setField(9, 1)", LIMIT, x -> x.setField(9, 1));
        refused("setField(3, 1)", LIMIT, x -> x.setField(3, 1));
        refused("setField(9, 2)", LIMIT, x -> x.setField(9, 2));
        refused("setField(0, 2)", LIMIT, x -> x.setField(0, 2));
        refused("type(32)", LIMIT, x -> x.type(32));
        refused("type(126)", LIMIT, x -> x.type(126));
        sentence("a refused call changes nothing: NOT_POSSIBLE");
        refused("run()", IMPOSSIBLE, x -> x.run());
        refused("move(1, 0, 14, 2)", IMPOSSIBLE, x -> x.move(1, 0, 14, 2));
        refused("move(2, 0, 5, 0)", IMPOSSIBLE, x -> x.move(2, 0, 5, 0));
        sentence("a refused call changes nothing: TOO_LARGE");
        for (int side = 1; side <= 2; side++) {
            int s = side;
            refused("positions", LARGE, x -> x.positions(s));
            refused("wins", LARGE, x -> x.wins(s));
            refused("bestMove", LARGE, x -> x.bestMove(s));
            refused("length", LARGE, x -> x.length(s));
        }
        refused("outcome()", LARGE, x -> x.outcome());
        refused("outcomeOf(0)", LARGE, x -> x.outcomeOf(0));
        refused("zugzwangs()", LARGE, x -> x.zugzwangs());
        sentence("a refused call changes nothing: NOT_FOUND");
        refused("moveAt(1, 588, 0)", MISSING, x -> x.moveAt(1, 588, 0));
        refused("moveAt(2, greatest, 2)", MISSING, x -> x.moveAt(2, GREATEST, 2));
        refused("regionOf(4)", MISSING, x -> x.regionOf(4));
    }

    private static BurningFields ofLeftAlone() {
        BurningFields x = board(5, 3, "100033333333330");
        x.lead();
        x.value(0);
        for (int f = 5; f < 14; f++) {
            x.setField(f, 0);
        }
        return x;
    }

    private static void valuesThatAreTooLarge() {
        sentence("a refused call changes nothing: a value that is too large");
        given(RefusedCallsTest::ofLeftAlone);
        wrongArguments();
        refused("value(0)", LARGE, x -> x.value(0));
        refused("lead()", LARGE, x -> x.lead());
        sentence("NOT_POSSIBLE rather than TOO_LARGE: a region of kind 3 before and behind one that is too large");
        for (String fields : new String[] {"102333001300001", "201333002300002", "020000000333102", "010000000333201"}) {
            given(() -> board(3, 5, fields));
            refused("lead()", IMPOSSIBLE, x -> x.lead());
            boolean first = fields.charAt(2) != '0';
            refused("value of kind 3", IMPOSSIBLE, x -> x.value(first ? 0 : 1));
            refused("value of the other one", LARGE, x -> x.value(first ? 1 : 0));
            refused("value(2)", INVALID, x -> x.value(2));
        }
    }

    private static BurningFields small() {
        BurningFields x = board(3, 2, "103032");
        x.setField(1, 3);
        x.value(0);
        x.lead();
        x.undo();
        write(x, "burn 1;pass;left 9;");
        return x;
    }

    private static void smallOnes() {
        sentence("a refused call changes nothing: small questions");
        given(RefusedCallsTest::small);
        wrongArguments();
        refused("value(0)", IMPOSSIBLE, x -> x.value(0));
        refused("lead()", IMPOSSIBLE, x -> x.lead());
        refused("regionOf(2)", MISSING, x -> x.regionOf(2));
        refused("fault()", MISSING, x -> x.fault());
        refused("setField(6, 0)", INVALID, x -> x.setField(6, 0));
        refused("move(1, 0, 1, 2)", IMPOSSIBLE, x -> x.move(1, 0, 1, 2));
        given(() -> board(3, 1, "132"));
        refused("bestMove(1)", MISSING, x -> x.bestMove(1));
        refused("bestMove(2)", MISSING, x -> x.bestMove(2));
        refused("moveAt(1, 0, 0)", MISSING, x -> x.moveAt(1, 0, 0));
        given(() -> board(2, 1, "33"));
        refused("value(0)", INVALID, x -> x.value(0));
        refused("outcomeOf(0)", INVALID, x -> x.outcomeOf(0));
        refused("regionInfo(0, 0)", INVALID, x -> x.regionInfo(0, 0));
        refused("regionOf(0)", MISSING, x -> x.regionOf(0));
    }

    private static void moreThanOneError() {
        sentence("TOO_LARGE rather than NOT_FOUND");
        given(() -> board(3, 5, "020303033103230"));
        refused("bestMove(1), where no move wins", LARGE, x -> x.bestMove(1));
        sentence("INVALID_ARGUMENT rather than LIMIT_REACHED");
        given(() -> board(3, 3, "111222000"));
        for (int side = 1; side <= 2; side++) {
            int s = side;
            refused("setField(9, side)", INVALID, x -> x.setField(9, s));
            refused("setField(-1, side)", INVALID, x -> x.setField(-1, s));
            refused("setField(8, side)", LIMIT, x -> x.setField(8, s));
        }
        sentence("INVALID_ARGUMENT rather than NOT_POSSIBLE: each argument of no move");
        given(() -> board(3, 3, "100000002"));
        refused("move(1, 1, 2, 9)", INVALID, x -> x.move(1, 1, 2, 9));
        refused("move(1, 1, 9, 2)", INVALID, x -> x.move(1, 1, 9, 2));
        refused("move(1, 9, 1, 2)", INVALID, x -> x.move(1, 9, 1, 2));
        refused("move(3, 1, 1, 1)", INVALID, x -> x.move(3, 1, 1, 1));
        refused("move(1, 1, 2, -1)", INVALID, x -> x.move(1, 1, 2, -1));
        refused("move(1, 8, 5, 8)", IMPOSSIBLE, x -> x.move(1, 8, 5, 8));
        refused("move(2, 0, 1, 0)", IMPOSSIBLE, x -> x.move(2, 0, 1, 0));
        refused("move(1, 0, 1, 1)", IMPOSSIBLE, x -> x.move(1, 0, 1, 1));
        refused("move(1, 0, 8, 0)", IMPOSSIBLE, x -> x.move(1, 0, 8, 0));
        refused("move(1, 0, 4, 8)", IMPOSSIBLE, x -> x.move(1, 0, 4, 8));
    }

    public static void main(String[] args) {
        newObject();
        largeOnes();
        valuesThatAreTooLarge();
        smallOnes();
        moreThanOneError();
        checks.end();
    }
}
