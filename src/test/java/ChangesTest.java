/** The boundaries in the document's part 'Changes and errors' and in promises 2, 7 and 27: the history and undo. */
public final class ChangesTest extends BoardChecks {
    private static final int KINDS = 4;

    /** One change of each kind, on any board of 3 times 3 that has a free field 8 and no left piece but at 0. */
    private static void change(BurningFields x, int kind) {
        switch (kind) {
            case 0: due("reset(3, 3)", x.reset(3, 3), 33); break;
            case 1: due("setField(8, 3)", x.setField(8, 3), 0); break;
            case 2: checks.holds("move(1, 0, 1, 0)", x.move(1, 0, 1, 0) >= 0); break;
            default:
                write(x, "burn 7;");
                due("run()", x.run(), 1);
        }
    }

    private static String[] boardsAfter() {
        return new String[] {"000000000", "100000003", "310000000", "100000030"};
    }

    private static void kindsOfChanges() {
        sentence("The methods reset, setField, move and run are changes, if they return no error");
        for (int kind = 0; kind < KINDS; kind++) {
            BurningFields x = new BurningFields();
            x.setField(0, 1);
            change(x, kind);
            dueFields("changed", x, boardsAfter()[kind]);
            due("undo()", x.undo(), 1);
            dueFields("undone", x, "100000000");
            due("undo()", x.undo(), 0);
            due("undo()", x.undo(), IMPOSSIBLE);
        }
        sentence("changes that leave all as it was are changes, too");
        BurningFields y = new BurningFields();
        due("reset(3, 3)", y.reset(3, 3), 33);
        due("setField(0, 0)", y.setField(0, 0), 0);
        due("run()", y.run(), 0);
        due("undo()", y.undo(), 2);
        due("undo()", y.undo(), 1);
        due("undo()", y.undo(), 0);
        due("undo()", y.undo(), IMPOSSIBLE);
    }

    private static void noChanges() {
        sentence("The methods reset, setField, move and run are changes: no others are");
        BurningFields x = new BurningFields();
        x.setField(0, 1);
        due("field", x.field(0), 1);
        due("count", x.count(1), 1);
        due("isSeen", x.isSeen(0, 8), 1);
        checks.holds("moves", x.moves(1) > 0);
        due("moveAt", x.moveAt(1, 0, 0), 0);
        due("regions", x.regions(), 1);
        due("regionOf", x.regionOf(0), 0);
        due("regionInfo", x.regionInfo(0, 0), 1);
        checks.holds("value", x.value(0) != INVALID);
        checks.holds("lead", x.lead() != INVALID);
        checks.holds("kept", x.kept(0) >= 0);
        checks.holds("positions", x.positions(1) != INVALID);
        checks.holds("wins", x.wins(1) != INVALID);
        checks.holds("outcome", x.outcome() != INVALID);
        checks.holds("outcomeOf", x.outcomeOf(0) != INVALID);
        checks.holds("bestMove", x.bestMove(1) != INVALID);
        checks.holds("length", x.length(1) != INVALID);
        checks.holds("zugzwangs", x.zugzwangs() != INVALID);
        write(x, "pass;");
        due("fault", x.fault(), MISSING);
        due("clearText", x.clearText(), 5);
        dueFields("nothing has changed", x, "100000000");
        due("undo()", x.undo(), 0);
        sentence("undo is no change: what it restored is not recorded");
        due("undo()", x.undo(), IMPOSSIBLE);
        dueFields("undone", x, "000000000");
    }

    private static void eightStates() {
        sentence("A history of at most 8 states; if there are 8 already, the oldest one is dropped");
        for (int changes = 1; changes <= 18; changes++) {
            BurningFields x = new BurningFields();
            for (int i = 1; i <= changes; i++) {
                x.setField(i % 9, i % 2 == 0 ? 3 : 1 + i / 2 % 2);
            }
            int states = Math.min(changes, 8);
            BurningFields y = new BurningFields();
            for (int i = 1; i <= changes - states; i++) {
                y.setField(i % 9, i % 2 == 0 ? 3 : 1 + i / 2 % 2);
            }
            for (int left = states - 1; left >= 0; left--) {
                due(changes + " changes: undo()", x.undo(), left);
            }
            due(changes + " changes: undo()", x.undo(), IMPOSSIBLE);
            for (int f = 0; f < 9; f++) {
                due(changes + " changes: field(" + f + ")", x.field(f), y.field(f));
            }
        }
    }

    private static void ninthChange() {
        sentence("each change records the state before it: the eighth and the ninth one, of each kind");
        for (int kind = 0; kind < KINDS; kind++) {
            for (int before = 7; before <= 9; before++) {
                BurningFields x = new BurningFields();
                x.setField(5, 3);
                x.setField(0, 1);
                for (int i = 2; i < before; i++) {
                    x.setField(2, i % 2 == 0 ? 3 : 0);
                }
                String last = before % 2 == 0 ? "100003000" : "103003000";
                dueFields("before", x, last);
                change(x, kind);
                due(before + " changes and one: undo()", x.undo(), 7);
                dueFields("the state before it", x, last);
                for (int left = 6; left >= 0; left--) {
                    due("undo()", x.undo(), left);
                }
                dueFields("the oldest one", x, before == 7 ? "000000000" : before == 8 ? "000003000" : "100003000");
                due("undo()", x.undo(), IMPOSSIBLE);
            }
        }
    }

    private static void sizesInTheHistory() {
        sentence("undo takes the latest one from the history and restores it (with its size)");
        int[][] sizes = {{1, 1}, {5, 3}, {3, 5}, {1, 5}, {5, 1}, {2, 3}, {3, 2}, {4, 3}};
        BurningFields x = new BurningFields();
        int previous = 33;
        for (int[] size : sizes) {
            due("reset", x.reset(size[0], size[1]), previous);
            previous = 10 * size[0] + size[1];
        }
        for (int left = 7; left >= 0; left--) {
            due("undo()", x.undo(), left);
            int w = left == 0 ? 3 : sizes[left - 1][0], h = left == 0 ? 3 : sizes[left - 1][1];
            due("count(0)", x.count(0), w * h);
            due("field(last)", x.field(w * h - 1), 0);
            due("field(last + 1)", x.field(w * h), INVALID);
            if (w > 1 && h > 1) {
                due("the first field of the second row is below the first one", x.isSeen(0, w), 1);
                due("and not beside the last one of the first row", x.isSeen(w - 1, w), w == 2 ? 1 : 0);
            }
        }
        due("undo()", x.undo(), IMPOSSIBLE);
        due("reset(1, 1)", x.reset(1, 1), 33);
        sentence("a size that is restored is the previous one of the next reset");
        due("undo()", x.undo(), 0);
        due("reset(5, 3)", x.reset(5, 3), 33);
        sentence("a small board is restored from a large one, and the other way round, with all contents");
        BurningFields y = board(3, 2, "123012");
        y.reset(5, 3);
        for (int f = 14; f >= 13; f--) {
            y.setField(f, f - 12);
        }
        due("reset(1, 1)", y.reset(1, 1), 53);
        due("undo()", y.undo(), 7);
        dueFields("5 times 3", y, "000000000000012");
        due("undo()", y.undo(), 6);
        due("undo()", y.undo(), 5);
        dueFields("5 times 3", y, "000000000000000");
        due("undo()", y.undo(), 4);
        dueFields("3 times 2", y, "123012");
    }

    private static void emptyHistory() {
        sentence("NOT_POSSIBLE if it is empty");
        BurningFields x = new BurningFields();
        for (int i = 0; i < 10; i++) {
            due("undo()", x.undo(), IMPOSSIBLE);
        }
        dueFields("nothing has changed", x, "000000000");
        due("setField(0, 3)", x.setField(0, 3), 0);
        due("undo()", x.undo(), 0);
        due("undo()", x.undo(), IMPOSSIBLE);
        sentence("after undo, changes are recorded on: a full history, a part of it taken, and full again");
        BurningFields y = new BurningFields();
        for (int f = 0; f < 9; f++) {
            y.setField(f, 3);
        }
        due("undo()", y.undo(), 7);
        due("undo()", y.undo(), 6);
        y.setField(0, 0);
        due("undo()", y.undo(), 6);
        y.setField(0, 0);
        y.setField(1, 0);
        y.setField(2, 0);
        dueFields("freed", y, "000333300");
        for (int left = 7; left >= 5; left--) {
            due("undo()", y.undo(), left);
        }
        dueFields("the three are undone", y, "333333300");
        for (int left = 4; left >= 0; left--) {
            due("undo()", y.undo(), left);
        }
        due("undo()", y.undo(), IMPOSSIBLE);
        dueFields("the two oldest ones were dropped", y, "330000000");
    }

    private static void runIsOneChange() {
        sentence("All together are one change (also if there is none)");
        String[] texts = {"", "pass;", "pass;pass;", "burn 99;", "left 0;", "left 0;right 1;burn 2;free 0;",
            "left 1;left 2;left 3;left 4;", "move 1 0 1 2;left 0;", "left 0;move 1 0 1 0;", "left 0;burn 9;burn 1;"};
        int[] done = {0, 1, 2, 0, 1, 4, 3, 0, 2, 1};
        for (int i = 0; i < texts.length; i++) {
            BurningFields x = new BurningFields();
            x.setField(8, 2);
            write(x, texts[i]);
            due("run() of '" + texts[i] + "'", x.run(), done[i]);
            due("undo()", x.undo(), 1);
            dueFields("undone", x, "000000002");
            due("undo()", x.undo(), 0);
            due("undo()", x.undo(), IMPOSSIBLE);
        }
        sentence("the state that run records, in a full history: one is dropped, however many commands there are");
        for (String text : new String[] {"", "free 0;", "free 0;free 1;free 2;free 3;", "burn 9;"}) {
            BurningFields x = new BurningFields();
            for (int f = 0; f < 8; f++) {
                x.setField(f, 3);
            }
            write(x, text);
            checks.holds("run()", x.run() >= 0);
            due("undo()", x.undo(), 7);
            dueFields("undone", x, "333333330");
            for (int left = 6; left >= 0; left--) {
                due("undo()", x.undo(), left);
            }
            dueFields("the oldest one was dropped", x, "300000000");
        }
    }

    /** The document promises answers for 512 calls; these are as many, the dearest ones among them. */
    private static void manyCalls() {
        sentence("An object is used for at most 512 calls after it has been made");
        BurningFields x = new BurningFields();
        int calls = 0;
        x.reset(5, 3);
        x.setField(0, 1);
        x.setField(14, 2);
        calls += 3;
        while (calls + 9 <= 512) {
            due("outcome()", x.outcome(), LARGE);
            due("zugzwangs()", x.zugzwangs(), LARGE);
            due("length(2)", x.length(2), LARGE);
            due("lead()", x.lead(), IMPOSSIBLE);
            due("setField(7, 3)", x.setField(7, 3), 0);
            due("undo()", x.undo(), 3);
            due("run()", x.run(), 0);
            due("undo()", x.undo(), 3);
            due("kept(0)", x.kept(0), 0);
            calls += 9;
        }
        while (calls < 511) {
            due("field(14)", x.field(14), 2);
            calls++;
        }
        due("the 512th call: undo()", x.undo(), 2);
    }

    public static void main(String[] args) {
        kindsOfChanges();
        noChanges();
        eightStates();
        ninthChange();
        sizesInTheHistory();
        emptyHistory();
        runIsOneChange();
        manyCalls();
        checks.end();
    }
}
