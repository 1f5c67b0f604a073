/** The boundaries in the document's part 'Regions' and in promises 11 to 16, sentence by sentence. */
public final class RegionBoundariesTest extends BoardChecks {
    private static final int SMALLEST = Integer.MIN_VALUE, GREATEST = Integer.MAX_VALUE;

    private static void largestSets() {
        sentence("A region is a largest set of fields that are not burned: none, one, all, the most");
        due("regions()", board(1, 1, "3").regions(), 0);
        due("regions()", board(5, 3, "333333333333333").regions(), 0);
        due("regions()", board(1, 1, "0").regions(), 1);
        due("regions()", board(5, 3, "000000000000000").regions(), 1);
        due("regions()", board(5, 3, "121212000000000").regions(), 1);
        due("regions()", board(5, 3, "030303333303030").regions(), 6);
        due("regions()", board(3, 5, "030333030333030").regions(), 6);
        due("regions()", board(5, 1, "03030").regions(), 3);
        due("regions()", board(1, 5, "03030").regions(), 3);
        due("regions()", board(5, 1, "30303").regions(), 2);
        sentence("one comes from each of them to each other one by neighbours within the set");
        due("a way of corners alone", board(5, 3, "033300303030303").regions(), 1);
        due("a way of 15 fields that is one", board(5, 3, "003000303000300").regions(), 1);
        due("a gap in it", board(5, 3, "003000333000300").regions(), 2);
        sentence("Regions are numbered from 0 by their lowest fields");
        BurningFields x = board(5, 3, "330303333303030");
        int[] lowest = {2, 4, 10, 12, 14};
        due("regions()", x.regions(), 5);
        for (int r = 0; r < 5; r++) {
            due("regionInfo(" + r + ", 5)", x.regionInfo(r, 5), lowest[r]);
            due("regionOf(" + lowest[r] + ")", x.regionOf(lowest[r]), r);
        }
        // The other region's lowest field is lower than some of the first one.
        BurningFields apart = board(5, 3, "033030333300000");
        due("regionOf(0)", apart.regionOf(0), 0);
        due("regionOf(3)", apart.regionOf(3), 1);
        due("regionOf(5)", apart.regionOf(5), 0);
        due("regionOf(9)", apart.regionOf(9), MISSING);
        due("regionInfo(0, 1)", apart.regionInfo(0, 1), 2 + 5);
    }

    private static void kinds() {
        sentence("The kind of a region is 0 if it contains no piece, 1, 2, and 3 if both");
        dueInfo(board(5, 1, "03030"), new int[][] {{0, 1, 1, 0, 0, 0}, {0, 1, 1, 0, 0, 2}, {0, 1, 1, 0, 0, 4}});
        dueInfo(board(5, 1, "13231"), new int[][] {{1, 1, 0, 1, 0, 0}, {2, 1, 0, 0, 1, 2}, {1, 1, 0, 1, 0, 4}});
        dueInfo(board(2, 1, "12"), new int[][] {{3, 2, 0, 1, 1, 0}});
        dueInfo(board(3, 3, "111222000"), new int[][] {{3, 9, 3, 3, 3, 0}});
        dueInfo(board(5, 3, "111000000000000"), new int[][] {{1, 15, 12, 3, 0, 0}});
        dueInfo(board(5, 3, "333333333333330"), new int[][] {{0, 1, 1, 0, 0, 14}});
        dueInfo(board(1, 1, "3"), new int[0][]);
    }

    private static void dueInfo(BurningFields x, int[][] want) {
        due("regions()", x.regions(), want.length);
        for (int r = 0; r < want.length; r++) {
            for (int what = 0; what <= 5; what++) {
                due("regionInfo(" + r + ", " + what + ")", x.regionInfo(r, what), want[r][what]);
            }
            for (int what : new int[] {-1, 6, SMALLEST, GREATEST}) {
                due("regionInfo(" + r + ", " + what + ")", x.regionInfo(r, what), INVALID);
            }
        }
        for (int r : new int[] {-1, want.length, want.length + 1, 15, 16, SMALLEST, GREATEST}) {
            due("regionInfo(" + r + ", 0)", x.regionInfo(r, 0), INVALID);
            due("regionInfo(" + r + ", 6)", x.regionInfo(r, 6), INVALID);
            due("value(" + r + ")", x.value(r), INVALID);
            due("outcomeOf(" + r + ")", x.outcomeOf(r), INVALID);
        }
        due("kept(0)", x.kept(0), 0);
    }

    /** All boards of this size whose fields are free or burned, against the model. */
    private static void allBoards(int w, int h) {
        sentence("one comes from each of them to each other one by neighbours within the set: all ways");
        for (int burned = 0; burned < 1 << w * h; burned++) {
            BurningFields x = new BurningFields();
            Model m = new Model();
            x.reset(w, h);
            m.reset(w, h);
            for (int f = 0; f < w * h; f++) {
                if ((burned >> f & 1) != 0) {
                    x.setField(f, 3);
                    m.setField(f, 3);
                }
            }
            String board = w + " times " + h + " with " + Integer.toBinaryString(burned) + " burned: ";
            due(board + "regions()", x.regions(), m.regions());
            for (int f = 0; f < w * h; f++) {
                due(board + "regionOf(" + f + ")", x.regionOf(f), m.regionOf(f));
            }
        }
    }

    /** A board with three regions whose last one went into another one, without a question since. */
    private static BurningFields twoOfThree() {
        BurningFields x = board(5, 1, "13231");
        due("regions()", x.regions(), 3);
        x.setField(3, 0);
        return x;
    }

    private static void staleRegions() {
        sentence("there is no such region: regions that were, but are no more");
        due("value(2)", twoOfThree().value(2), INVALID);
        due("regionInfo(2, 0)", twoOfThree().regionInfo(2, 0), INVALID);
        due("regionInfo(1, 0)", twoOfThree().regionInfo(1, 0), 3);
        due("outcomeOf(2)", twoOfThree().outcomeOf(2), INVALID);
        due("outcomeOf(1)", twoOfThree().outcomeOf(1), BurningFields.FIRST_WINS);
        due("regionOf(4)", twoOfThree().regionOf(4), 1);
        due("lead()", twoOfThree().lead(), IMPOSSIBLE);
        due("value(1)", twoOfThree().value(1), IMPOSSIBLE);
        BurningFields x = twoOfThree();
        due("regionInfo(1, 0)", x.regionInfo(1, 0), 3);
        x.setField(2, 3);
        x.setField(4, 0);
        due("lead()", x.lead(), 0);
        due("kept(0)", x.kept(0), 1);
        x.setField(1, 0);
        x.undo();
        due("regionInfo(1, 1)", x.regionInfo(1, 1), 2);
        x.reset(1, 1);
        due("regionInfo(1, 1)", x.regionInfo(1, 1), INVALID);
        x.setField(0, 3);
        due("regionInfo(0, 0)", x.regionInfo(0, 0), INVALID);
        due("value(0)", x.value(0), INVALID);
        due("outcomeOf(0)", x.outcomeOf(0), INVALID);
        due("lead()", x.lead(), 0);
        sentence("lead: of the regions that there are, though there were more and others");
        BurningFields y = board(5, 3, "133313333310002");
        due("lead()", y.lead(), IMPOSSIBLE);
        y.setField(0, 3);
        y.setField(4, 3);
        y.setField(12, 3);
        due("lead()", y.lead(), 1 - 1);
        due("kept(0)", y.kept(0), 2);
    }

    private static void valuesOfRegions() {
        sentence("the greatest number of moves that this side can make in it one after the other: none, one, all fields");
        for (int side = 1; side <= 2; side++) {
            due("no field beside it", valueOf(1, 1, "1", side), 0);
            due("no free field", valueOf(3, 1, "111", side), 0);
            due("one free field", valueOf(2, 1, "10", side), 1);
            due("each move burns one of two", valueOf(3, 1, "100", side), 2);
            due("it burns what it has left", valueOf(3, 1, "010", side), 2);
            due("a burned field in the way", valueOf(4, 1, "1030", side), 1);
            due("two pieces with one free field", valueOf(3, 1, "101", side), 1);
            due("a row of five", valueOf(5, 1, "10000", side), 4);
            due("a square", valueOf(2, 2, "1000", side), 3);
        }
        sentence("if the other side never moves; in the region alone");
        BurningFields x = board(5, 1, "10302");
        due("value(0)", x.value(0), 1);
        due("value(1)", x.value(1), 1);
        sentence("that of a region of kind 0 is 0, however large");
        BurningFields free = board(5, 3, "000000000000000");
        due("value(0)", free.value(0), 0);
        due("lead()", free.lead(), 0);
        due("kept(0)", free.kept(0), 0);
        due("kept(1)", free.kept(1), 0);
    }

    private static int valueOf(int w, int h, String fields, int side) {
        return board(w, h, side == 1 ? fields : swapped(fields)).value(0);
    }

    private static void manyArrangements() {
        sentence("It is too large if more than 1500 arrangements of the region can come up (the present one included)");
        String[] most = {"5 2 0 3010100003", "5 3 1 233003300031031", "3 5 1 033331003000301", "3 5 0 301000003331033"};
        String[] tooMany = {"5 2 0 0003310010", "3 5 1 330133003000130", "5 3 1 033003300031301", "5 3 0 300301103330003"};
        for (String told : most) {
            dueSize(told, true);
        }
        for (String told : tooMany) {
            dueSize(told, false);
        }
        BurningFields all = board(5, 3, "000000010000000");
        due("far too large", all.value(0), LARGE);
        due("lead()", all.lead(), LARGE);
        due("kept(0)", all.kept(0), 0);
        due("kept(1)", all.kept(1), 0);
    }

    /** told: width, height, region, fields with this region of the left side. */
    private static void dueSize(String told, boolean fits) {
        String[] parts = told.split(" ");
        int w = Integer.parseInt(parts[0]), h = Integer.parseInt(parts[1]), r = Integer.parseInt(parts[2]);
        for (String fields : new String[] {parts[3], swapped(parts[3])}) {
            BurningFields x = board(w, h, fields);
            int v = x.value(r);
            due(fields + ": value(" + r + ")", v, fits ? Math.max(0, v) : LARGE);
            due("kept(0)", x.kept(0), fits ? 1 : 0);
            due(fields + ": value(" + r + ")", x.value(r), v);
            due("a hit", x.kept(1), fits ? 1 : 0);
        }
    }

    private static void leadAndErrors() {
        sentence("lead: TOO_LARGE if some value is (values of regions with lower numbers have been asked for then)");
        // Regions of kind 1 or 2, one of them too large: at first, in the middle, at last.
        dueLead(5, 3, "130303320023020", new int[] {1, LARGE, 2});
        dueLead(5, 3, "230003300213000", new int[] {2, LARGE, 1});
        dueLead(5, 3, "020320003300031", new int[] {LARGE, 2, 1});
        dueLead(5, 3, "000310203300031", new int[] {LARGE, 1, 1});
        dueLead(3, 5, "132333010010030", new int[] {1, 2, LARGE});
        dueLead(3, 5, "031333200320000", new int[] {0, 1, LARGE});
        dueLead(5, 3, "010310003310030", new int[] {LARGE, 1, 0});
        sentence("lead: NOT_POSSIBLE if there is a region of kind 3: the only one, the first, the last one");
        for (String told : new String[] {"2 1 12", "5 1 12310", "5 1 10312", "5 3 131023333300000", "5 1 12321"}) {
            String[] parts = told.split(" ");
            BurningFields x = board(Integer.parseInt(parts[0]), Integer.parseInt(parts[1]), parts[2]);
            due(told + ": lead()", x.lead(), IMPOSSIBLE);
            due("nothing has been asked for", x.kept(0), 0);
            due("nothing has been asked for", x.kept(1), 0);
        }
        sentence("lead: no region, and none with pieces");
        due("lead()", board(1, 1, "3").lead(), 0);
        due("lead()", board(5, 1, "03030").lead(), 0);
        sentence("lead: the sum of the values of kind 1 minus that of kind 2");
        due("left alone", board(5, 1, "10301").lead(), 1 + 1);
        due("right alone", board(5, 1, "20302").lead(), -1 - 1);
        due("both", board(5, 1, "10032").lead(), 2);
        due("both", board(5, 1, "13002").lead(), -2);
        due("as many", board(5, 1, "10302").lead(), 0);
    }

    /** kinds: of the regions in their order; LARGE for one whose value is too large. */
    private static void dueLead(int w, int h, String fields, int[] kinds) {
        BurningFields x = board(w, h, fields);
        due(fields + ": regions()", x.regions(), kinds.length);
        int asked = 0;
        boolean before = true;
        for (int kind : kinds) {
            before &= kind != LARGE;
            asked += before && kind != 0 ? 1 : 0;
        }
        due(fields + ": lead()", x.lead(), LARGE);
        due("kept(0)", x.kept(0), asked);
        due("kept(1)", x.kept(1), 0);
        due(fields + ": lead()", x.lead(), LARGE);
        due("kept(0)", x.kept(0), asked);
        due("kept(1)", x.kept(1), asked);
        int hits = asked;
        int kept = asked;
        before = true;
        for (int r = 0; r < kinds.length; r++) {
            before &= kinds[r] != LARGE;
            int v = x.value(r);
            checks.holds(fields + ": value(" + r + ") is " + v, kinds[r] == LARGE ? v == LARGE : v >= 0);
            if (kinds[r] == 1 || kinds[r] == 2) {
                hits += before ? 1 : 0;
                kept += before ? 0 : 1;
            }
            due("kept(0) after value(" + r + ")", x.kept(0), kept);
            due("kept(1) after value(" + r + ")", x.kept(1), hits);
        }
    }

    public static void main(String[] args) {
        largestSets();
        allBoards(4, 3);
        allBoards(3, 4);
        kinds();
        staleRegions();
        valuesOfRegions();
        manyArrangements();
        leadAndErrors();
        checks.end();
    }
}
