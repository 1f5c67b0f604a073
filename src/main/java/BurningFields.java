/**
 * A game of two sides on a small board: a piece moves like a queen and then burns a field.
 * ../shared/DOC.md says what each public method promises.
 */
public final class BurningFields {
    public static final int INVALID_ARGUMENT = -1001;
    public static final int NOT_POSSIBLE = -1002;
    public static final int LIMIT_REACHED = -1003;
    public static final int TOO_LARGE = -1004;
    public static final int NOT_FOUND = -1005;
    public static final int FREE = 0, LEFT = 1, RIGHT = 2, BURNED = 3;
    public static final int LEFT_WINS = 0, RIGHT_WINS = 1, FIRST_WINS = 2, SECOND_WINS = 3;

    private static final int LONGEST_SIDE = 5;
    private static final int MOST_FIELDS = 15;
    private static final int MOST_PIECES = 3;
    private static final int DIRECTIONS = 8;
    private static final int MOST_MOVES = MOST_PIECES * (MOST_FIELDS - 1) * (MOST_FIELDS - 1);
    private static final int MOST_POSITIONS = 1500;
    private static final int SLOT_BITS = 12;
    private static final int SLOTS = 1 << SLOT_BITS;
    private static final int MOST_KEPT = 40;
    private static final int MOST_STATES = 8;
    private static final int MOST_SIGNS = 60;
    private static final int FIRST_SIGN = 32;
    private static final int LAST_SIGN = 126;

    private static final int NO_FIELD = -1;
    private static final int NONE = -1;

    /** A command's word that sets a field has the number of the contents: FREE to BURNED. */
    private static final int WORD_MOVE = 4;
    private static final int WORD_PASS = 5;
    private static final int WORDS = 6;
    private static final int NUMBERS_OF_MOVE = 4;

    private final Grid grid = new Grid();
    private final MoveList list = new MoveList(grid);
    private final Play leftPlay = new Play(list);
    private final Play rightPlay = new Play(list);
    private final RegionList areas = new RegionList();
    private final ValueTable table = new ValueTable();
    private final History history = new History();
    private final Script script = new Script();
    private long board;

    public BurningFields() {
        grid.resize(3, 3);
        board = 0;
    }

    // the board

    public int reset(int width, int height) {
        if (!isBoardSize(width, height)) {
            return INVALID_ARGUMENT;
        }
        int previous = 10 * grid.width + grid.height;
        history.record(grid, board);
        grid.resize(width, height);
        board = 0;
        table.empty();
        return previous;
    }

    public int setField(int field, int what) {
        long before = board;
        int answer = putContents(field, what);
        if (answer >= 0) {
            history.record(grid, before);
        }
        return answer;
    }

    public int field(int field) {
        if (!grid.has(field)) {
            return INVALID_ARGUMENT;
        }
        return Contents.at(board, field);
    }

    public int count(int what) {
        if (!isContents(what)) {
            return INVALID_ARGUMENT;
        }
        return Integer.bitCount(maskOf(what));
    }

    public int isSeen(int a, int b) {
        if (!grid.has(a) || !grid.has(b)) {
            return INVALID_ARGUMENT;
        }
        return grid.seenFrom(a, maskOf(FREE)) >> b & 1;
    }

    public int undo() {
        int last = history.size - 1;
        if (last < 0) {
            return NOT_POSSIBLE;
        }
        int width = history.widths[last];
        int height = history.heights[last];
        if (width != grid.width || height != grid.height) {
            table.empty();
            grid.resize(width, height);
        }
        board = history.boards[last];
        history.size = last;
        return last;
    }

    // moves

    public int move(int side, int from, int to, int burnt) {
        long before = board;
        int answer = makeMove(side, from, to, burnt);
        if (answer >= 0) {
            history.record(grid, before);
        }
        return answer;
    }

    public int moves(int side) {
        if (!isSide(side)) {
            return INVALID_ARGUMENT;
        }
        list.fill(board, side);
        return list.size;
    }

    public int moveAt(int side, int index, int what) {
        if (!isSide(side) || index < 0 || what < 0 || what > 2) {
            return INVALID_ARGUMENT;
        }
        list.fill(board, side);
        if (index >= list.size) {
            return NOT_FOUND;
        }
        if (what == 0) {
            return list.fromOf(index);
        }
        return what == 1 ? list.toOf(index) : list.burntOf(index);
    }

    // regions

    public int regions() {
        divideBoard();
        return areas.size;
    }

    public int regionOf(int field) {
        if (!grid.has(field)) {
            return INVALID_ARGUMENT;
        }
        divideBoard();
        for (int region = 0; region < areas.size; region++) {
            if ((areas.masks[region] >> field & 1) != 0) {
                return region;
            }
        }
        return NOT_FOUND;
    }

    public int regionInfo(int region, int what) {
        divideBoard();
        if (!areas.has(region) || what < 0 || what > 5) {
            return INVALID_ARGUMENT;
        }
        int mask = areas.masks[region];
        switch (what) {
            case 0: return kindOf(mask);
            case 1: return Integer.bitCount(mask);
            case 2: return Integer.bitCount(mask & maskOf(FREE));
            case 3: return Integer.bitCount(mask & maskOf(LEFT));
            case 4: return Integer.bitCount(mask & maskOf(RIGHT));
            default: return Integer.bitCount((mask & -mask) - 1);
        }
    }

    public int value(int region) {
        divideBoard();
        if (!areas.has(region)) {
            return INVALID_ARGUMENT;
        }
        int mask = areas.masks[region];
        if (isShared(mask)) {
            return NOT_POSSIBLE;
        }
        return askValue(mask);
    }

    public int lead() {
        divideBoard();
        for (int region = 0; region < areas.size; region++) {
            if (isShared(areas.masks[region])) {
                return NOT_POSSIBLE;
            }
        }
        int difference = 0;
        for (int region = 0; region < areas.size; region++) {
            int mask = areas.masks[region];
            int number = askValue(mask);
            if (number < 0) {
                return number;
            }
            difference += kindOf(mask) == LEFT ? number : -number;
        }
        return difference;
    }

    public int kept(int what) {
        if (what < 0 || what > 1) {
            return INVALID_ARGUMENT;
        }
        return what == 0 ? table.size : table.hits;
    }

    // the play

    public int positions(int side) {
        if (!isSide(side)) {
            return INVALID_ARGUMENT;
        }
        return leftPlay.explore(board, side, otherSide(side)) ? leftPlay.size : TOO_LARGE;
    }

    public int wins(int side) {
        if (!isSide(side)) {
            return INVALID_ARGUMENT;
        }
        if (!exploreAndSolve(leftPlay, board, side)) {
            return TOO_LARGE;
        }
        return leftPlay.isWon(0) ? 1 : 0;
    }

    public int outcome() {
        return findOutcome(board);
    }

    public int outcomeOf(int region) {
        divideBoard();
        if (!areas.has(region)) {
            return INVALID_ARGUMENT;
        }
        return findOutcome(aloneOf(areas.masks[region]));
    }

    public int bestMove(int side) {
        if (!isSide(side)) {
            return INVALID_ARGUMENT;
        }
        if (!exploreAndSolve(leftPlay, board, side)) {
            return TOO_LARGE;
        }
        list.fill(board, side);
        for (int index = 0; index < list.size; index++) {
            int after = leftPlay.find(list.after(board, side, index));
            if (after != NONE && !leftPlay.isWon(after)) {
                return index;
            }
        }
        return NOT_FOUND;
    }

    public int length(int side) {
        if (!isSide(side)) {
            return INVALID_ARGUMENT;
        }
        if (!exploreAndSolve(leftPlay, board, side)) {
            return TOO_LARGE;
        }
        return leftPlay.restOf(0);
    }

    public int zugzwangs() {
        if (!exploreAndSolve(leftPlay, board, LEFT) || !exploreAndSolve(rightPlay, board, RIGHT)) {
            return TOO_LARGE;
        }
        // In one play the same contents always have the same side to move (the burned fields tell
        // how many moves were made), and in the other play the other side: so each pair is one of
        // a position of the one play and the position with the same contents of the other.
        int number = 0;
        for (int index = 0; index < leftPlay.size; index++) {
            int twin = rightPlay.find(leftPlay.contentsOf(index));
            if (twin != NONE && !leftPlay.isWon(index) && !rightPlay.isWon(twin)) {
                number++;
            }
        }
        return number;
    }

    // texts

    public int type(int character) {
        if (character < FIRST_SIGN || character > LAST_SIGN) {
            return INVALID_ARGUMENT;
        }
        return script.append((char) character) ? script.size : LIMIT_REACHED;
    }

    public int clearText() {
        int previous = script.size;
        script.size = 0;
        return previous;
    }

    public int fault() {
        int at = script.findFault();
        return at == NONE ? NOT_FOUND : at;
    }

    public int run() {
        if (script.findFault() != NONE) {
            return NOT_POSSIBLE;
        }
        history.record(grid, board);
        int done = 0;
        int at = 0;
        for (int command = 0; command < MOST_SIGNS && at < script.size; command++) {
            at = script.readCommand(at);
            if (at == NONE || executeCommand() < 0) {
                return done;
            }
            done++;
        }
        return done;
    }

    // what the methods share

    private static boolean isBoardSize(int width, int height) {
        return width >= 1 && width <= LONGEST_SIDE && height >= 1 && height <= LONGEST_SIDE
                && width * height <= MOST_FIELDS;
    }

    private static boolean isContents(int what) {
        return what >= FREE && what <= BURNED;
    }

    private static boolean isSide(int side) {
        return side == LEFT || side == RIGHT;
    }

    private static int otherSide(int side) {
        return LEFT + RIGHT - side;
    }

    private int maskOf(int what) {
        return what == FREE ? Contents.freeMask(board, grid.all) : Contents.mask(board, what);
    }

    private int putContents(int field, int what) {
        if (!grid.has(field) || !isContents(what)) {
            return INVALID_ARGUMENT;
        }
        int previous = Contents.at(board, field);
        boolean isNewPiece = isSide(what) && what != previous;
        if (isNewPiece && Integer.bitCount(maskOf(what)) >= MOST_PIECES) {
            return LIMIT_REACHED;
        }
        board = Contents.with(board, field, what);
        return previous;
    }

    private int makeMove(int side, int from, int to, int burnt) {
        if (!isSide(side) || !grid.has(from) || !grid.has(to) || !grid.has(burnt)) {
            return INVALID_ARGUMENT;
        }
        list.fill(board, side);
        int index = list.find(from, to, burnt);
        if (index == NONE) {
            return NOT_POSSIBLE;
        }
        board = list.after(board, side, index);
        list.fill(board, otherSide(side));
        return list.size;
    }

    private int executeCommand() {
        int[] numbers = script.numbers;
        if (script.word == WORD_PASS) {
            return 0;
        }
        if (script.word == WORD_MOVE) {
            return makeMove(numbers[0], numbers[1], numbers[2], numbers[3]);
        }
        return putContents(numbers[0], script.word);
    }

    private void divideBoard() {
        areas.divide(grid, grid.all & ~maskOf(BURNED));
    }

    /** The kind of a region with pieces of one side only is the number of this side. */
    private int kindOf(int mask) {
        int kind = FREE;
        if ((mask & maskOf(LEFT)) != 0) {
            kind += LEFT;
        }
        if ((mask & maskOf(RIGHT)) != 0) {
            kind += RIGHT;
        }
        return kind;
    }

    private boolean isShared(int mask) {
        return kindOf(mask) == LEFT + RIGHT;
    }

    private long aloneOf(int mask) {
        return Contents.of(mask & maskOf(LEFT), mask & maskOf(RIGHT), grid.all & ~mask);
    }

    /** The value of a region that is not shared; it is looked for in the table and kept there. */
    private int askValue(int mask) {
        int side = kindOf(mask);
        if (!isSide(side)) {
            return 0;
        }
        long arrangement = aloneOf(mask);
        int place = table.find(arrangement);
        if (place != NONE) {
            table.hits++;
            return table.numbers[place];
        }
        if (!leftPlay.explore(arrangement, side, side)) {
            return TOO_LARGE;
        }
        int number = leftPlay.findMostMoves();
        table.put(arrangement, number);
        return number;
    }

    /** Explores and solves the play; false if it is too large. */
    private static boolean exploreAndSolve(Play play, long start, int side) {
        if (!play.explore(start, side, otherSide(side))) {
            return false;
        }
        play.solve();
        return true;
    }

    private int findOutcome(long start) {
        if (!exploreAndSolve(leftPlay, start, LEFT) || !exploreAndSolve(rightPlay, start, RIGHT)) {
            return TOO_LARGE;
        }
        boolean leftWins = leftPlay.isWon(0);
        boolean rightWins = rightPlay.isWon(0);
        if (leftWins) {
            return rightWins ? FIRST_WINS : LEFT_WINS;
        }
        return rightWins ? RIGHT_WINS : SECOND_WINS;
    }

    /** The contents of all fields in one number: a bit a field, for left, right and burned. */
    private static final class Contents {
        private static final int FIELD_BITS = (1 << MOST_FIELDS) - 1;

        private Contents() {
        }

        static long of(int left, int right, int burned) {
            return left | (long) right << MOST_FIELDS | (long) burned << 2 * MOST_FIELDS;
        }

        /** The fields with these contents, which are not FREE. */
        static int mask(long contents, int what) {
            return (int) (contents >>> MOST_FIELDS * (what - LEFT)) & FIELD_BITS;
        }

        static int freeMask(long contents, int all) {
            return all & ~(mask(contents, LEFT) | mask(contents, RIGHT) | mask(contents, BURNED));
        }

        static int at(long contents, int field) {
            for (int what = LEFT; what <= BURNED; what++) {
                if ((mask(contents, what) >> field & 1) != 0) {
                    return what;
                }
            }
            return FREE;
        }

        static long with(long contents, int field, int what) {
            long cleared = contents & ~(bit(field, LEFT) | bit(field, RIGHT) | bit(field, BURNED));
            return what == FREE ? cleared : cleared | bit(field, what);
        }

        static long bit(int field, int what) {
            return 1L << MOST_FIELDS * (what - LEFT) + field;
        }
    }

    /** The size of the board, and which field is next to which. */
    private static final class Grid {
        int width;
        int height;
        int fields;
        int all;
        final int[] next = new int[MOST_FIELDS * DIRECTIONS];

        void resize(int newWidth, int newHeight) {
            width = newWidth;
            height = newHeight;
            fields = width * height;
            all = (1 << fields) - 1;
            for (int field = 0; field < fields && field < MOST_FIELDS; field++) {
                for (int direction = 0; direction < DIRECTIONS; direction++) {
                    next[field * DIRECTIONS + direction] = stepFrom(field, direction);
                }
            }
        }

        private int stepFrom(int field, int direction) {
            // The place in a square of 3 times 3 whose middle, place 4, is left out.
            int place = direction < 4 ? direction : direction + 1;
            int y = 0;
            int x = field;
            for (int row = 1; row < height && x >= width; row++) {
                x -= width;
                y++;
            }
            x += place % 3 - 1;
            y += place / 3 - 1;
            boolean isInside = x >= 0 && x < width && y >= 0 && y < height;
            return isInside ? width * y + x : NO_FIELD;
        }

        boolean has(int field) {
            return field >= 0 && field < fields;
        }

        int seenFrom(int field, int free) {
            int seen = 0;
            if (!has(field)) {
                return seen;
            }
            for (int direction = 0; direction < DIRECTIONS; direction++) {
                int at = next[field * DIRECTIONS + direction];
                for (int step = 1; step < LONGEST_SIDE && has(at); step++) {
                    if ((free >> at & 1) == 0) {
                        break;
                    }
                    seen |= 1 << at;
                    at = next[at * DIRECTIONS + direction];
                }
            }
            return seen;
        }

        int neighboursOf(int field) {
            int neighbours = 0;
            if (!has(field)) {
                return neighbours;
            }
            for (int direction = 0; direction < DIRECTIONS; direction++) {
                int at = next[field * DIRECTIONS + direction];
                if (at != NO_FIELD) {
                    neighbours |= 1 << at;
                }
            }
            return neighbours;
        }
    }

    /** All moves that a side has, in their order; a move is one number: from, to and burnt. */
    private static final class MoveList {
        private final Grid grid;
        private final int[] rows = new int[MOST_MOVES];
        int size;

        MoveList(Grid grid) {
            this.grid = grid;
        }

        void fill(long contents, int side) {
            size = 0;
            int pieces = Contents.mask(contents, side);
            int free = Contents.freeMask(contents, grid.all);
            for (int from = 0; from < grid.fields; from++) {
                if ((pieces >> from & 1) != 0) {
                    addMovesFrom(from, free);
                }
            }
        }

        private void addMovesFrom(int from, int free) {
            int targets = grid.seenFrom(from, free);
            for (int to = 0; to < grid.fields; to++) {
                if ((targets >> to & 1) != 0) {
                    int burnable = grid.seenFrom(to, (free | 1 << from) & ~(1 << to));
                    addBurns(from << 8 | to << 4, burnable);
                }
            }
        }

        private void addBurns(int start, int burnable) {
            for (int burnt = 0; burnt < grid.fields; burnt++) {
                if ((burnable >> burnt & 1) != 0 && size < MOST_MOVES) {
                    rows[size] = start | burnt;
                    size++;
                }
            }
        }

        int find(int from, int to, int burnt) {
            int row = from << 8 | to << 4 | burnt;
            for (int index = 0; index < size; index++) {
                if (rows[index] == row) {
                    return index;
                }
            }
            return NONE;
        }

        int fromOf(int index) {
            return rows[index] >> 8;
        }

        int toOf(int index) {
            return rows[index] >> 4 & 15;
        }

        int burntOf(int index) {
            return rows[index] & 15;
        }

        long after(long contents, int side, int index) {
            long moved = contents & ~Contents.bit(fromOf(index), side) | Contents.bit(toOf(index), side);
            return moved | Contents.bit(burntOf(index), BURNED);
        }
    }

    /**
     * The positions that come from one by moves. Each stands in the list once, and before all that
     * come from it, since positions with fewer burned fields come first.
     */
    private static final class Play {
        private static final long SCATTER = 0x9E3779B97F4A7C15L;
        private static final int NEVER = 1000;

        private final MoveList list;
        private final long[] found = new long[MOST_POSITIONS];
        private final boolean[] won = new boolean[MOST_POSITIONS];
        private final int[] rest = new int[MOST_POSITIONS];
        /** A position's number in the list plus 1, or 0. */
        private final int[] slots = new int[SLOTS];
        private int firstSide;
        private int secondSide;
        int size;

        Play(MoveList list) {
            this.list = list;
        }

        /** False if there are too many positions. With twice the same side only this one moves. */
        boolean explore(long start, int first, int second) {
            for (int slot = 0; slot < SLOTS; slot++) {
                slots[slot] = 0;
            }
            size = 0;
            firstSide = first;
            secondSide = second;
            add(start);
            for (int index = 0; index < size && index < MOST_POSITIONS; index++) {
                int side = sideAt(index);
                list.fill(found[index], side);
                for (int move = 0; move < list.size; move++) {
                    if (!add(list.after(found[index], side, move))) {
                        return false;
                    }
                }
            }
            return true;
        }

        /** False if the position is new, but there is no place for it. */
        private boolean add(long contents) {
            int slot = slotOf(contents);
            if (slots[slot] != 0) {
                return true;
            }
            if (size >= MOST_POSITIONS) {
                return false;
            }
            found[size] = contents;
            size++;
            slots[slot] = size;
            return true;
        }

        /** The slot that has this position, or else the free one where it belongs. */
        private int slotOf(long contents) {
            int slot = (int) (contents * SCATTER >>> 64 - SLOT_BITS);
            for (int probe = 0; probe < SLOTS; probe++) {
                int number = slots[slot];
                if (number == 0 || found[number - 1] == contents) {
                    return slot;
                }
                slot = slot + 1 & SLOTS - 1;
            }
            return slot;
        }

        int find(long contents) {
            return slots[slotOf(contents)] - 1;
        }

        /** A move burns one field, so the burned fields tell whose turn it is. */
        private int sideAt(int index) {
            int start = Integer.bitCount(Contents.mask(found[0], BURNED));
            int now = Integer.bitCount(Contents.mask(found[index], BURNED));
            return (now - start & 1) == 0 ? firstSide : secondSide;
        }

        /** Who wins, and how many moves are left then, for all positions from the last one on. */
        void solve() {
            for (int index = size - 1; index >= 0; index--) {
                int side = sideAt(index);
                int soonest = NEVER;
                int latest = 0;
                list.fill(found[index], side);
                for (int move = 0; move < list.size; move++) {
                    int after = find(list.after(found[index], side, move));
                    if (after == NONE) {
                        continue;
                    }
                    latest = Math.max(latest, rest[after] + 1);
                    if (!won[after]) {
                        soonest = Math.min(soonest, rest[after] + 1);
                    }
                }
                won[index] = soonest != NEVER;
                rest[index] = won[index] ? soonest : latest;
            }
        }

        /** The greatest number of moves from the first position on, if only one side moves. */
        int findMostMoves() {
            for (int index = size - 1; index >= 0; index--) {
                int most = 0;
                list.fill(found[index], firstSide);
                for (int move = 0; move < list.size; move++) {
                    int after = find(list.after(found[index], firstSide, move));
                    if (after != NONE) {
                        most = Math.max(most, rest[after] + 1);
                    }
                }
                rest[index] = most;
            }
            return rest[0];
        }

        long contentsOf(int index) {
            return found[index];
        }

        boolean isWon(int index) {
            return won[index];
        }

        int restOf(int index) {
            return rest[index];
        }
    }

    /** The regions of a board, a mask of fields each, by their lowest fields. */
    private static final class RegionList {
        final int[] masks = new int[MOST_FIELDS];
        int size;

        boolean has(int region) {
            return region >= 0 && region < size;
        }

        void divide(Grid grid, int open) {
            size = 0;
            int left = open;
            for (int field = 0; field < grid.fields && size < MOST_FIELDS; field++) {
                if ((left >> field & 1) != 0) {
                    masks[size] = spread(grid, field, open);
                    left &= ~masks[size];
                    size++;
                }
            }
        }

        private static int spread(Grid grid, int start, int open) {
            int region = 1 << start;
            // A new field may open the way to lower ones, but each round adds one field or ends.
            for (int round = 0; round < MOST_FIELDS; round++) {
                int before = region;
                for (int field = 0; field < grid.fields; field++) {
                    if ((region >> field & 1) != 0) {
                        region |= grid.neighboursOf(field) & open;
                    }
                }
                if (region == before) {
                    break;
                }
            }
            return region;
        }
    }

    /** The kept values, by arrangements of one board size, and how often one was found. */
    private static final class ValueTable {
        private final long[] arrangements = new long[MOST_KEPT];
        final int[] numbers = new int[MOST_KEPT];
        int size;
        int hits;

        void empty() {
            size = 0;
        }

        int find(long arrangement) {
            for (int place = 0; place < size; place++) {
                if (arrangements[place] == arrangement) {
                    return place;
                }
            }
            return NONE;
        }

        void put(long arrangement, int number) {
            if (size >= MOST_KEPT) {
                empty();
            }
            arrangements[size] = arrangement;
            numbers[size] = number;
            size++;
        }
    }

    /** The latest states of the board, with their sizes, the oldest first. */
    private static final class History {
        final int[] widths = new int[MOST_STATES];
        final int[] heights = new int[MOST_STATES];
        final long[] boards = new long[MOST_STATES];
        int size;

        void record(Grid grid, long board) {
            if (size >= MOST_STATES) {
                dropOldest();
            }
            widths[size] = grid.width;
            heights[size] = grid.height;
            boards[size] = board;
            size++;
        }

        private void dropOldest() {
            for (int state = 1; state < MOST_STATES; state++) {
                widths[state - 1] = widths[state];
                heights[state - 1] = heights[state];
                boards[state - 1] = boards[state];
            }
            size = MOST_STATES - 1;
        }
    }

    /** The text, and the command that was read from it last. */
    private static final class Script {
        private final char[] signs = new char[MOST_SIGNS];
        final int[] numbers = new int[NUMBERS_OF_MOVE];
        int word;
        int size;

        boolean append(char sign) {
            if (size >= MOST_SIGNS) {
                return false;
            }
            signs[size] = sign;
            size++;
            return true;
        }

        /** Where the first command begins that is not of its form, or NONE. */
        int findFault() {
            int at = 0;
            for (int command = 0; command < MOST_SIGNS && at < size; command++) {
                int next = readCommand(at);
                if (next == NONE) {
                    return at;
                }
                at = next;
            }
            return NONE;
        }

        /** Reads the command that begins there; answers where the next one begins, or NONE. */
        int readCommand(int start) {
            word = findWord(start);
            if (word == NONE) {
                return NONE;
            }
            int at = start + textOf(word).length();
            for (int index = 0; index < numbersOf(word); index++) {
                at = readNumber(at, index);
                if (at == NONE) {
                    return NONE;
                }
            }
            return hasSign(at, ';') ? at + 1 : NONE;
        }

        private int findWord(int start) {
            for (int candidate = 0; candidate < WORDS; candidate++) {
                if (hasText(start, textOf(candidate))) {
                    return candidate;
                }
            }
            return NONE;
        }

        private boolean hasText(int start, String text) {
            for (int index = 0; index < text.length(); index++) {
                if (!hasSign(start + index, text.charAt(index))) {
                    return false;
                }
            }
            return true;
        }

        private boolean hasSign(int at, char sign) {
            return at >= 0 && at < size && signs[at] == sign;
        }

        /** Reads a space and a number; answers the place after it, or NONE. */
        private int readNumber(int at, int index) {
            if (!hasSign(at, ' ') || !hasDigit(at + 1)) {
                return NONE;
            }
            int number = signs[at + 1] - '0';
            int end = at + 2;
            if (hasDigit(end)) {
                number = 10 * number + signs[end] - '0';
                end++;
            }
            numbers[index] = number;
            return end;
        }

        private boolean hasDigit(int at) {
            return at >= 0 && at < size && signs[at] >= '0' && signs[at] <= '9';
        }

        private static String textOf(int word) {
            switch (word) {
                case FREE: return "free";
                case LEFT: return "left";
                case RIGHT: return "right";
                case BURNED: return "burn";
                case WORD_MOVE: return "move";
                default: return "pass";
            }
        }

        private static int numbersOf(int word) {
            if (word == WORD_MOVE) {
                return NUMBERS_OF_MOVE;
            }
            return word == WORD_PASS ? 0 : 1;
        }
    }
}
