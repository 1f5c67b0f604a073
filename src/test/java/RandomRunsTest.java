/** Long runs of calls, made up by a fixed row of numbers, against the model. */
public final class RandomRunsTest {
    private static long seed;

    private static int pick(int bound) {
        seed = seed * 6364136223846793005L + 1442695040888963407L;
        return (int) ((seed >>> 33) % bound);
    }

    /** Mostly a number from low to high, now and then one beyond. */
    private static int around(int low, int high) {
        int odd = pick(40);
        if (odd == 0) {
            return low - 1 - pick(3);
        }
        if (odd == 1) {
            return high + 1 + pick(3);
        }
        if (odd == 2) {
            return pick(2) == 0 ? Integer.MIN_VALUE : Integer.MAX_VALUE;
        }
        return low + pick(high - low + 1);
    }

    private final Checks checks;
    private final BurningFields x = new BurningFields();
    private final Model m = new Model();
    private final StringBuilder log = new StringBuilder();
    private int calls = 0;
    private int fields = 9;

    private RandomRunsTest(Checks checks) {
        this.checks = checks;
    }

    private void due(String call, int got, int want) {
        calls++;
        log.append(call).append('=').append(want).append(' ');
        int before = checks.wrongOnes();
        checks.due(call, got, want);
        if (before == 0 && checks.wrongOnes() == 1) {
            System.out.println("the run: " + log);
        }
    }

    private void resize() {
        int w = around(1, 5), h = around(1, 5);
        due("reset(" + w + "," + h + ")", x.reset(w, h), m.reset(w, h));
        if (w >= 1 && w <= 5 && h >= 1 && h <= 5 && w * h <= 15) {
            fields = w * h;
        }
    }

    private void set(int f, int what) {
        due("setField(" + f + "," + what + ")", x.setField(f, what), m.setField(f, what));
    }

    private void scatter() {
        int burned = pick(8), pieces = pick(4);
        for (int f = 0; f < fields; f++) {
            int what = pick(10) < burned ? 3 : pick(10) < pieces ? 1 + pick(2) : 0;
            if (what != 0 || pick(3) == 0) {
                set(f, what);
            }
        }
    }

    private void write(String text) {
        for (char c : text.toCharArray()) {
            due("type(" + (int) c + ")", x.type(c), m.type(c));
        }
    }

    private String command() {
        String[] words = {"left", "right", "free", "burn", "move", "pass"};
        int word = pick(6);
        StringBuilder s = new StringBuilder(words[word]);
        int n = word == 4 ? 4 : word == 5 ? 0 : 1;
        for (int i = 0; i < n; i++) {
            int number = word == 4 && i == 0 ? 1 + pick(2) : pick(12) == 0 ? pick(100) : pick(fields);
            s.append(' ').append(number < 10 && pick(4) == 0 ? "0" : "").append(number);
        }
        s.append(';');
        if (pick(12) == 0) {
            s.setCharAt(pick(s.length()), (char) (32 + pick(95)));
        }
        if (pick(20) == 0) {
            s.deleteCharAt(pick(s.length()));
        }
        if (pick(25) == 0) {
            s.insert(pick(s.length()), (char) (48 + pick(12)));
        }
        return s.toString();
    }

    /** A command that makes one of the moves that the sides have now, if there is one. */
    private String moveCommand() {
        int side = 1 + pick(2), n = m.moves(side);
        if (n == 0) {
            return "pass;";
        }
        int i = pick(n);
        return "move " + side + " " + m.moveAt(side, i, 0) + " " + m.moveAt(side, i, 1) + " "
                + m.moveAt(side, i, 2) + ";";
    }

    private void askText() {
        if (pick(2) == 0) {
            due("clearText()", x.clearText(), m.clearText());
        }
        int n = pick(4);
        for (int i = 0; i < n; i++) {
            write(pick(3) == 0 ? moveCommand() : command());
        }
        due("fault()", x.fault(), m.fault());
        due("run()", x.run(), m.run());
    }

    private void askPlay() {
        int s = around(1, 2);
        due("positions(" + s + ")", x.positions(s), m.positions(s));
        due("wins(" + s + ")", x.wins(s), m.wins(s));
        due("bestMove(" + s + ")", x.bestMove(s), m.bestMove(s));
        due("length(" + s + ")", x.length(s), m.length(s));
        due("outcome()", x.outcome(), m.outcome());
        if (pick(2) == 0) {
            due("zugzwangs()", x.zugzwangs(), m.zugzwangs());
        }
    }

    private void askRegions() {
        due("regions()", x.regions(), m.regions());
        int r = around(0, Math.max(0, m.regions() - 1)), f = around(0, fields - 1), i = around(0, 5);
        due("regionOf(" + f + ")", x.regionOf(f), m.regionOf(f));
        due("regionInfo(" + r + "," + i + ")", x.regionInfo(r, i), m.regionInfo(r, i));
        due("value(" + r + ")", x.value(r), m.value(r));
        due("outcomeOf(" + r + ")", x.outcomeOf(r), m.outcomeOf(r));
    }

    private void askValues() {
        due("lead()", x.lead(), m.lead());
        due("kept(0)", x.kept(0), m.kept(0));
        due("kept(1)", x.kept(1), m.kept(1));
        int i = around(0, 1);
        due("kept(" + i + ")", x.kept(i), m.kept(i));
    }

    private void askBoard() {
        for (int f = 0; f < fields; f++) {
            due("field(" + f + ")", x.field(f), m.field(f));
        }
        int a = around(0, fields - 1), b = around(0, fields - 1), what = around(0, 3);
        due("field(" + a + ")", x.field(a), m.field(a));
        due("isSeen(" + a + "," + b + ")", x.isSeen(a, b), m.isSeen(a, b));
        due("count(" + what + ")", x.count(what), m.count(what));
    }

    private void makeMove() {
        int side = around(1, 2), n = m.moves(side);
        due("moves(" + side + ")", x.moves(side), n);
        int i = around(0, Math.max(0, n - 1)), what = around(0, 2);
        due("moveAt(" + side + "," + i + "," + what + ")", x.moveAt(side, i, what), m.moveAt(side, i, what));
        int from = m.moveAt(side, i, 0), to = m.moveAt(side, i, 1), burnt = m.moveAt(side, i, 2);
        if (n <= 0 || pick(4) == 0) {
            from = around(0, fields - 1);
            to = around(0, fields - 1);
            burnt = around(0, fields - 1);
        }
        due("move(" + side + "," + from + "," + to + "," + burnt + ")", x.move(side, from, to, burnt),
                m.move(side, from, to, burnt));
    }

    private void step() {
        switch (pick(20)) {
            case 0: resize(); scatter(); break;
            case 1: scatter(); break;
            case 2: case 3: set(around(0, fields - 1), around(0, 3)); break;
            case 4: case 5: makeMove(); break;
            case 6: case 7: askText(); break;
            case 8: case 9: case 10: askPlay(); break;
            case 11: case 12: case 13: askRegions(); break;
            case 14: case 15: case 16: askValues(); break;
            case 17: askBoard(); break;
            default:
                due("undo()", x.undo(), m.undo());
                fields = fieldsOfModel();
        }
    }

    private int fieldsOfModel() {
        return m.count(0) + m.count(1) + m.count(2) + m.count(3);
    }

    public static void main(String[] args) {
        int runs = args.length > 0 ? Integer.parseInt(args[0]) : 60;
        int first = args.length > 1 ? Integer.parseInt(args[1]) : 1;
        Checks checks = new Checks();
        for (int run = first; run < first + runs; run++) {
            seed = run * 7919L;
            RandomRunsTest test = new RandomRunsTest(checks);
            if (pick(3) != 0) {
                test.resize();
            }
            test.scatter();
            while (test.calls < 440) {
                test.step();
            }
        }
        checks.end();
    }
}
