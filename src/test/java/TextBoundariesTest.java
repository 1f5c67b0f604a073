/** The boundaries in the document's part 'Texts' and in promises 24 to 27, sentence by sentence. */
public final class TextBoundariesTest extends BoardChecks {
    private static final String TWELVE = "pass;pass;pass;pass;pass;pass;pass;pass;pass;pass;pass;pass;";

    private static void characters() {
        sentence("its code, 32 to 126");
        BurningFields x = new BurningFields();
        for (int wrong : new int[] {31, 127, 0, -1, 128, 255, 10, 9, 256 + 65, 65536 + 65, -65, 32 - 65536,
            Integer.MIN_VALUE, Integer.MIN_VALUE + 65, Integer.MAX_VALUE}) {
            due("type(" + wrong + ")", x.type(wrong), INVALID);
        }
        due("type(32)", x.type(32), 1);
        due("type(126)", x.type(126), 2);
        due("type(31)", x.type(31), INVALID);
        due("type(127)", x.type(127), INVALID);
        due("clearText()", x.clearText(), 2);
        for (int start = 32; start <= 126; start += 48) {
            for (int c = start; c < start + 48 && c <= 126; c++) {
                due("type(" + c + ")", x.type(c), c - start + 1);
            }
            x.clearText();
        }
    }

    private static void sixtyCharacters() {
        sentence("There is a text of at most 60 characters");
        BurningFields x = new BurningFields();
        for (int i = 1; i <= 59; i++) {
            due("type", x.type(TWELVE.charAt(i - 1)), i);
        }
        due("the fault of 59 characters", x.fault(), 55);
        due("type", x.type(';'), 60);
        due("fault", x.fault(), MISSING);
        for (int i = 0; i < 3; i++) {
            due("a 61st one", x.type(';'), LIMIT);
            due("a 61st one that is out of range", x.type(127), INVALID);
        }
        due("the text is as it was: fault()", x.fault(), MISSING);
        due("run()", x.run(), 12);
        due("clearText()", x.clearText(), 60);
        due("after it there is room again", x.type(';'), 1);
        due("fault()", x.fault(), 0);
        due("clearText()", x.clearText(), 1);
    }

    private static void emptyText() {
        sentence("initially empty");
        BurningFields x = new BurningFields();
        due("fault()", x.fault(), MISSING);
        due("run()", x.run(), 0);
        due("clearText()", x.clearText(), 0);
        due("clearText()", x.clearText(), 0);
        sentence("NOT_FOUND if it has none (also if it is empty): emptied again");
        write(x, "burn 0;");
        due("clearText()", x.clearText(), 7);
        due("fault()", x.fault(), MISSING);
        due("run()", x.run(), 0);
        dueFields("nothing of the old text is done", x, "000000000");
        due("clearText()", x.clearText(), 0);
        sentence("an old text behind the end of a shorter one is no part of it");
        write(x, "left 1;burn 2;");
        write(x, "left 1");
        due("fault()", x.fault(), 0);
        write(x, "left 1;burn ");
        due("fault()", x.fault(), 7);
        write(x, "left 1;");
        due("fault()", x.fault(), MISSING);
        due("run()", x.run(), 1);
        dueFields("one command", x, "010000000");
    }

    private static void dueFault(String text, int want) {
        BurningFields x = new BurningFields();
        write(x, text);
        due("fault() of '" + text + "'", x.fault(), want);
        int run = x.run();
        checks.holds("run() of '" + text + "' answered " + run, run == IMPOSSIBLE == want >= 0);
        due("The text stays: '" + text + "'", x.clearText(), text.length());
    }

    private static void numbers() {
        sentence("and the numbers that it needs, each after one space and with one or two digits: 0, 1, 2 and 3 digits");
        for (String word : new String[] {"left", "right", "free", "burn"}) {
            for (String number : new String[] {"0", "9", "00", "09", "10", "99"}) {
                dueFault(word + " " + number + ";", MISSING);
            }
            for (String rest : new String[] {"", " ", "  1", " 000", " 001", " 100", "1", " -1", " +1", " 1 ", " 1 2", " a",
                " 1a", " a1", " /", " :", " 1/", " 1:", " 0x", ";1", " ;1", " 1."}) {
                dueFault(word + rest + ";", 0);
            }
        }
        sentence("move S A B C: each of the four numbers");
        dueFault("move 1 2 3 4;", MISSING);
        dueFault("move 00 00 00 00;", MISSING);
        dueFault("move 99 99 99 99;", MISSING);
        for (int n = 0; n < 4; n++) {
            for (String number : new String[] {"", "000", "100", "x", " 1", "-1", "1,"}) {
                StringBuilder text = new StringBuilder("move");
                for (int i = 0; i < 4; i++) {
                    text.append(' ').append(i == n ? number : "1");
                }
                dueFault(text + ";", 0);
            }
        }
        for (String few : new String[] {"move", "move 1", "move 1 1", "move 1 1 1", "move 1 1 1 1 1", "move 1 1 1 1 "}) {
            dueFault(few + ";", 0);
        }
        dueFault("pass;", MISSING);
        dueFault("pass 1;", 0);
        dueFault("pass ;", 0);
    }

    private static void words() {
        sentence("A command is a word: these six, as they stand");
        for (String word : new String[] {"left 1", "right 1", "free 1", "burn 1", "move 1 1 1 1", "pass"}) {
            dueFault(word + ";", MISSING);
            dueFault(word.substring(1) + ";", 0);
            dueFault(" " + word + ";", 0);
            dueFault(";" + word + ";", 0);
            dueFault(word.substring(0, 1).toUpperCase() + word.substring(1) + ";", 0);
            dueFault(word.toUpperCase() + ";", 0);
            for (int cut = 0; cut < 4; cut++) {
                dueFault(word.substring(0, cut) + word.substring(cut + 1) + ";", 0);
                dueFault(word.substring(0, cut) + "x" + word.substring(cut + 1) + ";", 0);
                dueFault(word.substring(0, cut) + "x" + word.substring(cut) + ";", 0);
            }
        }
        for (String other : new String[] {"undo", "reset 3 3", "black 1", "burned 1", "passs", "lefty 1", "1", ""}) {
            dueFault(other + ";", 0);
        }
    }

    private static void semicolons() {
        sentence("commands, each followed by ';': the last one, too");
        for (String word : new String[] {"left 1", "right 01", "free 1", "burn 1", "move 1 2 3 4", "move 11 2 3 44", "pass"}) {
            for (int length = 1; length <= word.length(); length++) {
                dueFault(word.substring(0, length), 0);
                dueFault("burn 12;" + word.substring(0, length), 8);
            }
            dueFault(word + ":", 0);
            dueFault(word + ";;", word.length() + 1);
            dueFault(word + "; ", word.length() + 1);
            dueFault(word + " ;", 0);
            dueFault(word + "," + word + ";", 0);
        }
        dueFault(";", 0);
        dueFault(" ", 0);
        dueFault("~", 0);
    }

    private static void placeOfTheFault() {
        sentence("the position, from 0, of the first character of the first command that is not of this form");
        for (int before = 0; before < 12; before++) {
            dueFault(TWELVE.substring(0, 5 * before) + "x", 5 * before);
            dueFault(TWELVE.substring(0, 5 * before) + ";", 5 * before);
            dueFault(TWELVE.substring(0, 5 * before) + "past;", 5 * before);
            if (before < 11) {
                dueFault(TWELVE.substring(0, 5 * before) + "past;past;", 5 * before);
                dueFault(TWELVE.substring(0, 5 * before) + "past;pass;", 5 * before);
            }
        }
        sentence("from 0: the last one of 60 characters is 59");
        String most = TWELVE.substring(0, 45) + "left 1;burn 1;";
        due("characters", most.length(), 59);
        dueFault(most + ";", 59);
        dueFault(most + "p", 59);
        dueFault(most, MISSING);
        sentence("the end of the text of 60 characters within a command");
        dueFault(TWELVE.substring(0, 50) + "left 12345", 50);
        dueFault(TWELVE.substring(0, 55) + "left ", 55);
        dueFault(TWELVE.substring(0, 50) + "move 1 2 3", 50);
        dueFault(TWELVE.substring(0, 50) + "pass;left1", 55);
        dueFault(TWELVE.substring(0, 50) + "burn  1;12", 50);
        dueFault(TWELVE.substring(0, 45) + "move 1 1 1 99;x", 59);
        dueFault(TWELVE.substring(0, 45) + "move 1 1 11 99;", MISSING);
        dueFault(TWELVE.substring(0, 45) + "move 1 1 11 999", 45);
    }

    private static void dueRun(String text, int done, String fields) {
        BurningFields x = board(3, 3, "120030000");
        write(x, text);
        due("run() of '" + text + "'", x.run(), done);
        dueFields("after '" + text + "'", x, fields);
        due("The text stays", x.fault(), MISSING);
        due("The text stays: '" + text + "'", x.clearText(), text.length());
        due("one change", x.undo(), 4);
        dueFields("undone", x, "120030000");
    }

    private static void running() {
        sentence("Executes the commands of the text in their order, until one of them returns an error: none, the first, the last one");
        dueRun("", 0, "120030000");
        dueRun("pass;", 1, "120030000");
        dueRun("left 8;left 8;right 8;free 8;burn 8;", 5, "120030003");
        dueRun("left 9;right 8;", 0, "120030000");
        dueRun("pass;burn 8;left 9;right 8;", 2, "120030003");
        dueRun("right 8;left 9;", 1, "120030002");
        dueRun("left 99;", 0, "120030000");
        dueRun("left 08;free 00;right 7;", 3, "020030021");
        sentence("until one of them returns an error: LIMIT_REACHED for a fourth piece");
        dueRun("left 2;left 3;left 0;left 5;right 8;", 3, "121130000");
        dueRun("right 2;right 3;free 1;right 5;right 8;burn 6;", 4, "102232000");
        sentence("until one of them returns an error: INVALID_ARGUMENT for a side or field, NOT_POSSIBLE for no move");
        dueRun("move 0 0 3 0;pass;", 0, "120030000");
        dueRun("move 3 0 3 0;pass;", 0, "120030000");
        dueRun("move 1 9 3 0;pass;", 0, "120030000");
        dueRun("move 1 0 9 0;pass;", 0, "120030000");
        dueRun("move 1 0 3 9;pass;", 0, "120030000");
        dueRun("move 1 0 3 4;pass;", 0, "120030000");
        dueRun("move 2 0 3 0;pass;", 0, "120030000");
        dueRun("move 1 0 3 0;move 2 1 2 1;pass;", 3, "332130000");
        dueRun("pass;pass;move 1 0 3 0;move 1 0 3 0;", 3, "320130000");
        dueRun("move 01 00 03 00;move 1 3 7 8;", 2, "320030013");
        sentence("pass (nothing happens), and returns no error");
        dueRun(TWELVE, 12, "120030000");
        sentence("on another board the same numbers may be fields");
        BurningFields x = board(5, 3, "000000000000000");
        write(x, "left 14;burn 9;right 10;left 15;burn 0;");
        due("run()", x.run(), 3);
        dueFields("after run()", x, "000000000320001");
        due("reset(1, 1)", x.reset(1, 1), 53);
        due("run()", x.run(), 0);
        write(x, "left 0;");
        due("run()", x.run(), 1);
        dueFields("after run()", x, "1");
    }

    private static void runWithAFault() {
        sentence("NOT_POSSIBLE if the text has a fault: no command of it is executed");
        for (String text : new String[] {"x", "left 8;x", "left 8;right 7;left 100;", "left 8", "burn 8;burn 7", ";"}) {
            BurningFields x = board(3, 3, "120030000");
            write(x, text);
            due("run()", x.run(), IMPOSSIBLE);
            due("run()", x.run(), IMPOSSIBLE);
            dueFields("nothing has changed", x, "120030000");
            due("The text stays", x.clearText(), text.length());
            due("no change", x.undo(), 3);
        }
    }

    private static void lastingText() {
        sentence("The text stays: no other changes, and no undo, are changes of the text");
        BurningFields x = board(3, 3, "100000000");
        write(x, "burn 8;left 9");
        due("reset(3, 3)", x.reset(3, 3), 33);
        due("fault()", x.fault(), 7);
        due("undo()", x.undo(), 2);
        due("fault()", x.fault(), 7);
        due("move(1, 0, 1, 0)", x.move(1, 0, 1, 0), 0);
        due("setField(2, 2)", x.setField(2, 2), 0);
        due("type(';')", x.type(';'), 14);
        due("run()", x.run(), 1);
        dueFields("after run()", x, "312000003");
        due("undo()", x.undo(), 4);
        dueFields("undone", x, "312000000");
        due("run()", x.run(), 1);
        due("reset(1, 1)", x.reset(1, 1), 33);
        due("clearText()", x.clearText(), 14);
        sentence("clearText is no change: undo brings no text back");
        due("undo()", x.undo(), 5);
        due("clearText()", x.clearText(), 0);
    }

    public static void main(String[] args) {
        characters();
        sixtyCharacters();
        emptyText();
        numbers();
        words();
        semicolons();
        placeOfTheFault();
        running();
        runWithAFault();
        lastingText();
        checks.end();
    }
}
