/** All boards of some small sizes, each question about them, against the model. */
public final class SmallBoardsTest {
    private static final Checks checks = new Checks();

    private static void ask(int w, int h, String fields) {
        BurningFields x = new BurningFields();
        Model m = new Model();
        String board = w + " times " + h + ", " + fields + ": ";
        checks.due(board + "reset", x.reset(w, h), m.reset(w, h));
        for (int f = 0; f < fields.length(); f++) {
            int what = fields.charAt(f) - '0';
            checks.due(board + "setField(" + f + ")", x.setField(f, what), m.setField(f, what));
        }
        for (int side = 1; side <= 2; side++) {
            checks.due(board + "positions(" + side + ")", x.positions(side), m.positions(side));
            checks.due(board + "wins(" + side + ")", x.wins(side), m.wins(side));
            checks.due(board + "bestMove(" + side + ")", x.bestMove(side), m.bestMove(side));
            checks.due(board + "length(" + side + ")", x.length(side), m.length(side));
            int moves = m.moves(side);
            checks.due(board + "moves(" + side + ")", x.moves(side), moves);
            for (int i = 0; i <= moves; i++) {
                for (int what = 0; what < 3; what++) {
                    checks.due(board + "moveAt", x.moveAt(side, i, what), m.moveAt(side, i, what));
                }
            }
        }
        checks.due(board + "outcome()", x.outcome(), m.outcome());
        checks.due(board + "zugzwangs()", x.zugzwangs(), m.zugzwangs());
        int regions = m.regions();
        checks.due(board + "regions()", x.regions(), regions);
        checks.due(board + "lead()", x.lead(), m.lead());
        for (int r = 0; r <= regions; r++) {
            checks.due(board + "value(" + r + ")", x.value(r), m.value(r));
            checks.due(board + "outcomeOf(" + r + ")", x.outcomeOf(r), m.outcomeOf(r));
            for (int what = 0; what <= 5; what++) {
                checks.due(board + "regionInfo", x.regionInfo(r, what), m.regionInfo(r, what));
            }
        }
        for (int f = 0; f < fields.length(); f++) {
            checks.due(board + "field(" + f + ")", x.field(f), m.field(f));
            checks.due(board + "regionOf(" + f + ")", x.regionOf(f), m.regionOf(f));
        }
        checks.due(board + "kept(0)", x.kept(0), m.kept(0));
        checks.due(board + "kept(1)", x.kept(1), m.kept(1));
    }

    private static void askAll(int w, int h) {
        int boards = 1 << 2 * w * h;
        for (int number = 0; number < boards; number++) {
            StringBuilder fields = new StringBuilder();
            for (int f = 0; f < w * h; f++) {
                fields.append(number >> 2 * f & 3);
            }
            ask(w, h, fields.toString());
        }
    }

    public static void main(String[] args) {
        askAll(1, 1);
        askAll(2, 2);
        askAll(4, 1);
        askAll(1, 5);
        askAll(5, 1);
        askAll(3, 2);
        askAll(2, 3);
        checks.end();
    }
}
