/** The table of kept values: the boundaries in the document's part 'Regions' and in promises 1, 2, 7 and 14 to 16. */
public final class KeptValuesTest extends BoardChecks {
    /** Fields round the left piece on field 4 of a board with 3 fields a row. */
    private static final int[] ROUND = {0, 1, 2, 3, 5, 6};

    /**
     * Three rows with a left piece in the middle (the first region), a burned row, and a row for other regions.
     * Each pattern from 0 to 63 burns other fields of the first region.
     */
    private static final class Patterns {
        final BurningFields x;
        private int now = 0;

        Patterns(String lastRow) {
            x = board(3, 5, "000010033333" + lastRow);
        }

        /** Goes back to pattern 0, which burns nothing. */
        void first() {
            for (int f : ROUND) {
                x.setField(f, 0);
            }
            now = 0;
        }

        /** Sets one field for the next pattern. */
        void next() {
            int before = now ^ now >> 1;
            now++;
            int after = now ^ now >> 1;
            for (int i = 0; i < ROUND.length; i++) {
                if (((before ^ after) >> i & 1) != 0) {
                    x.setField(ROUND[i], 3 * (after >> i & 1));
                }
            }
        }

        /** Asks for the values of this pattern and of those that follow, and stands on the last one then. */
        void ask(int patterns) {
            for (int i = 0; i < patterns; i++) {
                if (i > 0) {
                    next();
                }
                checks.holds("value(0)", x.value(0) >= 0);
            }
        }

        void dueKept(String when, int values, int hits) {
            due(when + ": kept(0)", x.kept(0), values);
            due(when + ": kept(1)", x.kept(1), hits);
        }
    }

    private static void newTable() {
        sentence("Creates .. an empty table of kept values");
        BurningFields x = new BurningFields();
        due("kept(0)", x.kept(0), 0);
        due("kept(1)", x.kept(1), 0);
        for (int what : new int[] {-1, 2, 3, Integer.MIN_VALUE, Integer.MAX_VALUE}) {
            due("kept(" + what + ")", x.kept(what), INVALID);
        }
    }

    private static void fortyValues() {
        sentence("Before a value is put into a table of 40, the table is emptied: 39, 40 and 41 values");
        for (int values = 1; values <= 42; values++) {
            Patterns p = new Patterns("333");
            p.ask(values);
            p.dueKept(values + " values", values <= 40 ? values : values - 40, 0);
        }
        sentence("a table of 40, emptied: the values before are no more in it");
        Patterns p = new Patterns("333");
        p.ask(40);
        p.dueKept("40 values", 40, 0);
        p.next();
        p.x.value(0);
        p.dueKept("the 41st one", 1, 0);
        p.x.value(0);
        p.dueKept("the 41st one again", 1, 1);
        p.x.undo();
        p.x.value(0);
        p.dueKept("the 40th one again", 2, 1);
        p.x.undo();
        p.x.value(0);
        p.dueKept("the 39th one again", 3, 1);
        p.x.value(0);
        p.dueKept("and again", 3, 2);
    }

    private static void everyKeptValue() {
        sentence("the table contains the value of each arrangement that was asked for: the first one to the 40th");
        Patterns p = new Patterns("333");
        int[] values = new int[40];
        for (int i = 0; i < 40; i++) {
            if (i > 0) {
                p.next();
            }
            values[i] = p.x.value(0);
        }
        for (int i = 0; i < 8; i++) {
            due("value(0) of the latest ones", p.x.value(0), values[39 - i]);
            p.dueKept("a hit", 40, i + 1);
            p.x.undo();
        }
        p.first();
        for (int i = 0; i < 40; i++) {
            if (i > 0) {
                p.next();
            }
            due("value(0) of pattern " + i, p.x.value(0), values[i]);
            due("kept(1)", p.x.kept(1), 9 + i);
        }
        p.dueKept("all were hits", 40, 48);
    }

    private static void fullTable() {
        sentence("If an arrangement is asked for that is in the table, this is a hit: in a full table, which stays");
        Patterns p = new Patterns("333");
        p.ask(40);
        p.x.value(0);
        p.x.lead();
        p.dueKept("hits", 40, 2);
        sentence("if it was not too large: a value that is too large is not put into a full table");
        p.x.setField(9, 0);
        p.x.setField(10, 0);
        p.x.setField(11, 0);
        p.first();
        due("value(0)", p.x.value(0), LARGE);
        due("value(0)", p.x.value(0), LARGE);
        due("lead()", p.x.lead(), LARGE);
        p.dueKept("too large", 40, 2);
        sentence("a region of kind 1 or 2: those of kind 0 or 3 leave a full table as it is");
        p.x.setField(0, 2);
        due("value(0)", p.x.value(0), IMPOSSIBLE);
        due("lead()", p.x.lead(), IMPOSSIBLE);
        p.x.setField(0, 0);
        p.x.setField(4, 0);
        due("value(0)", p.x.value(0), 0);
        due("lead()", p.x.lead(), 0);
        due("value(1)", p.x.value(1), INVALID);
        due("value(-1)", p.x.value(-1), INVALID);
        p.dueKept("no value", 40, 2);
        sentence("a full table still answers, and is emptied by the next value");
        p.x.setField(4, 1);
        p.x.setField(9, 3);
        p.x.setField(10, 3);
        p.x.setField(11, 3);
        checks.holds("the first pattern", p.x.value(0) >= 0);
        p.dueKept("the first pattern", 40, 3);
        p.x.setField(4, 2);
        checks.holds("right in the place of left", p.x.value(0) >= 0);
        p.dueKept("a new one", 1, 3);
    }

    private static void leadOverTheEnd() {
        sentence("Before a value is put into a table of 40, the table is emptied: within one call of lead");
        for (int before = 36; before <= 40; before++) {
            Patterns p = new Patterns("232");
            p.ask(before);
            p.next();
            checks.holds("lead()", p.x.lead() >= 0);
            // The third of the three values, or the second, or the first, finds 40 values, or none of them does.
            p.dueKept("3 values after " + before, before + 3 <= 40 ? before + 3 : before + 3 - 40, 0);
            checks.holds("lead()", p.x.lead() >= 0);
            int[] values = {39, 40, 3, 3, 3};
            int[] hits = {3, 3, 1, 2, 3};
            p.dueKept("and again after " + before, values[before - 36], hits[before - 36]);
        }
        sentence("a value that was in the table before it was emptied, within one call of lead");
        Patterns p = new Patterns("232");
        p.x.lead();
        p.dueKept("three regions", 3, 0);
        p.next();
        p.ask(37);
        p.dueKept("37 more", 40, 0);
        p.x.lead();
        p.dueKept("all hits", 40, 3);
        p.next();
        p.x.lead();
        p.dueKept("a new one, and two that are no more there", 3, 3);
    }

    private static void hitsAndArrangements() {
        sentence("An arrangement is the contents of all fields, where all fields outside of the region count as burned");
        BurningFields x = board(3, 5, "100333000333020");
        due("value(0)", x.value(0), 2);
        due("kept(0)", x.kept(0), 1);
        // What is not in the region may be burned or free, or have pieces, or be cut.
        String[] changes = {"6 3", "7 3", "8 3", "12 3", "13 1", "14 3", "6 1", "7 2", "8 0"};
        for (int i = 0; i < changes.length; i++) {
            String[] parts = changes[i].split(" ");
            x.setField(Integer.parseInt(parts[0]), Integer.parseInt(parts[1]));
            due("value(0)", x.value(0), 2);
            due("kept(1)", x.kept(1), i + 1);
        }
        due("kept(0)", x.kept(0), 1);
        sentence("the contents of all fields: other contents of the region are another arrangement");
        BurningFields y = board(3, 5, "100333333333333");
        y.value(0);
        y.setField(0, 2);
        due("value(0) of right", y.value(0), 2);
        due("kept(0)", y.kept(0), 2);
        y.setField(0, 1);
        y.setField(1, 1);
        due("value(0) with two pieces", y.value(0), 1);
        due("kept(0)", y.kept(0), 3);
        y.setField(0, 0);
        due("value(0) with the piece beside", y.value(0), 2);
        due("kept(0)", y.kept(0), 4);
        y.setField(2, 3);
        due("value(0) of a smaller one", y.value(0), 1);
        due("kept(0)", y.kept(0), 5);
        due("kept(1)", y.kept(1), 0);
        y.undo();
        due("value(0), as before", y.value(0), 2);
        due("kept(0)", y.kept(0), 5);
        due("kept(1)", y.kept(1), 1);
        sentence("that was asked for by value or lead: those that come up by moves were not asked for");
        BurningFields z = board(5, 1, "10000");
        due("value(0)", z.value(0), 4);
        due("kept(0)", z.kept(0), 1);
        z.move(1, 0, 1, 0);
        due("value(0)", z.value(0), 3);
        due("kept(0)", z.kept(0), 2);
        due("kept(1)", z.kept(1), 0);
        sentence("by value or lead: outcomes and the play keep nothing");
        due("outcomeOf(0)", z.outcomeOf(0), 0);
        checks.holds("outcome()", z.outcome() == 0);
        checks.holds("positions(1)", z.positions(1) > 0);
        due("kept(0)", z.kept(0), 2);
        due("kept(1)", z.kept(1), 0);
    }

    /** Three values on 3 times 2 fields, and a hit. */
    private static BurningFields threeValues() {
        BurningFields x = board(3, 2, "130033");
        x.value(0);
        x.setField(1, 0);
        x.value(0);
        x.undo();
        x.setField(4, 0);
        x.value(0);
        x.value(0);
        due("kept(0)", x.kept(0), 3);
        due("kept(1)", x.kept(1), 1);
        return x;
    }

    private static void emptiedByReset() {
        sentence("reset: The table of kept values is emptied, of another size or the same one; the hits are not");
        for (int width = 1; width <= 5; width++) {
            for (int height = 1; height <= 3; height++) {
                BurningFields x = threeValues();
                due("reset", x.reset(width, height), 32);
                due("kept(0)", x.kept(0), 0);
                due("kept(1)", x.kept(1), 1);
            }
        }
        BurningFields x = threeValues();
        x.reset(3, 2);
        String again = "130033";
        for (int f = 0; f < 6; f++) {
            x.setField(f, again.charAt(f) - '0');
        }
        checks.holds("value(0)", x.value(0) >= 0);
        due("kept(0)", x.kept(0), 1);
        due("kept(1), as the table was emptied", x.kept(1), 1);
        sentence("A call that returns an error changes nothing: a refused reset leaves the table");
        BurningFields y = threeValues();
        due("reset(0, 2)", y.reset(0, 2), INVALID);
        due("reset(3, 6)", y.reset(3, 6), INVALID);
        due("reset(4, 4)", y.reset(4, 4), INVALID);
        due("kept(0)", y.kept(0), 3);
    }

    private static void emptiedByUndo() {
        sentence("undo: If its size is another one than the present one, the table of kept values is emptied");
        int[][] sizes = {{3, 3}, {3, 1}, {2, 2}, {5, 2}, {2, 3}, {1, 1}, {5, 3}};
        for (int[] size : sizes) {
            BurningFields x = new BurningFields();
            x.reset(size[0], size[1]);
            x.reset(3, 2);
            x.setField(0, 1);
            x.setField(1, 3);
            x.value(0);
            x.value(0);
            due("kept(0)", x.kept(0), 1);
            due("undo() of the same size", x.undo(), 3);
            due("kept(0)", x.kept(0), 1);
            due("undo() of the same size", x.undo(), 2);
            due("kept(0)", x.kept(0), 1);
            due("undo() of reset from " + size[0] + " times " + size[1], x.undo(), 1);
            due("kept(0)", x.kept(0), 0);
            due("the hits stay", x.kept(1), 1);
        }
        sentence("undo of a reset to the same size leaves the values that were asked for since");
        BurningFields x = board(3, 2, "130000");
        x.value(0);
        x.reset(3, 2);
        due("kept(0)", x.kept(0), 0);
        x.setField(0, 1);
        x.setField(1, 3);
        x.setField(3, 3);
        x.setField(4, 3);
        due("value(0)", x.value(0), 0);
        due("kept(0)", x.kept(0), 1);
        for (int left = 7; left >= 3; left--) {
            due("undo()", x.undo(), left);
            due("kept(0)", x.kept(0), 1);
        }
        dueFields("before the reset", x, "130000");
        sentence("NOT_POSSIBLE if it is empty: a refused undo leaves the table");
        BurningFields y = new BurningFields();
        for (int f : new int[] {1, 2, 3, 4, 5, 6, 7, 8, 0}) {
            y.setField(f, f == 0 ? 1 : 3);
        }
        due("value(0)", y.value(0), 0);
        for (int left = 7; left >= 0; left--) {
            y.undo();
        }
        due("undo()", y.undo(), IMPOSSIBLE);
        due("kept(0)", y.kept(0), 1);
    }

    private static void otherChanges() {
        sentence("setField, move, run and texts leave the table");
        BurningFields x = threeValues();
        x.setField(2, 3);
        due("move(1, 0, 3, 0)", x.move(1, 0, 3, 0), 0);
        write(x, "free 0;burn 0;");
        due("run()", x.run(), 2);
        x.clearText();
        due("setField(9, 0)", x.setField(9, 0), INVALID);
        due("move(1, 0, 3, 0)", x.move(1, 0, 3, 0), IMPOSSIBLE);
        due("kept(0)", x.kept(0), 3);
        due("kept(1)", x.kept(1), 1);
    }

    public static void main(String[] args) {
        newTable();
        fortyValues();
        everyKeptValue();
        fullTable();
        leadOverTheEnd();
        hitsAndArrangements();
        emptiedByReset();
        emptiedByUndo();
        otherChanges();
        checks.end();
    }
}
