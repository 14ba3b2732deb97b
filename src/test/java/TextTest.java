/** Promises 11 to 14: appendText, clearText, errorPosition, runText. */
public final class TextTest {
    public static void main(String[] args) {
        appendText();
        clearText();
        validTexts();
        wrongTexts();
        everyCharacterBehindEveryBeginning();
        fullTexts();
        runText();
        runTextStops();
        runTextRefused();
        Check.end();
    }

    private static void appendText() {
        Story x = new Story();
        Check.is("the lowest", x.appendText(32), 1);
        Check.is("the greatest", x.appendText(126), 2);
        Check.is("the length", x.textLength(), 2);
        Check.is("not undoable", x.savedStates(), 0);
        for (int i = 3; i <= 100; i++) {
            Check.is("the length", x.appendText('n'), i);
        }
        Check.is("the full length", x.textLength(), 100);
    }

    private static void clearText() {
        Story x = new Story();
        Check.is("of an empty text", x.clearText(), 0);
        Texts.put(x, "n12");
        Check.is("the length before", x.clearText(), 3);
        Check.is("the length after", x.textLength(), 0);
        Check.is("an empty text is not valid", x.errorPosition(), 0);
        Check.is("a new character", x.appendText('n'), 1);
        Check.is("nothing of the old text", x.errorPosition(), 1);
        Check.is("not undoable", x.savedStates(), 0);
    }

    private static void validTexts() {
        String[] texts = {"c0,0,0,0,0", "c5,2,9,99,5000", "c1,1,1,10,4999", "r0,0,0", "r9,99,5000", "r9,9,999",
            "d0,0", "d9,99", "m0,0,0,0", "m9,99,5,2", "n1", "n9", "n10", "n99", "n100", "n1;n2", "n1;n1;n1",
            "c0,0,0,0,0;r0,0,1;m0,0,1,1;d0,0;n7", "d1,2;d1,2"};
        for (String text : texts) {
            Check.is(text, Texts.errorOf(text), -1);
        }
    }

    private static void wrongTexts() {
        Object[][] texts = {{"", 0}, {" ", 0}, {"C", 0}, {"x", 0}, {";", 0}, {"0", 0}, {"c", 1}, {"c6", 1}, {"c,", 1},
            {"c00", 2}, {"c01", 2}, {"c10", 2}, {"c5", 2}, {"c5,", 3}, {"c5,3", 3}, {"c5,2,10", 6}, {"c5,2,9,100", 9},
            {"c5,2,9,00", 8}, {"c5,2,9,9", 8}, {"c5,2,9,9;", 8}, {"c5,2,9,99,", 10}, {"c5,2,9,99,5001", 13},
            {"c5,2,9,99,501", -1}, {"c5,2,9,99,5010", 13}, {"c5,2,9,99,6000", 13}, {"c5,2,9,99,49990", 14},
            {"c5,2,9,99,00", 11}, {"c5,2,9,99,5,", 11}, {"c5,2,9,99,;", 10}, {"r9,99,5000,", 10}, {"r1", 2},
            {"r1,1", 4}, {"r1;", 2}, {"r10,", 2}, {"d9,99,", 5}, {"d1,1x", 4}, {"d,1", 1}, {"m9,99,6", 6},
            {"m9,99,5,3", 8}, {"m9,99,5,2,", 9}, {"m9,99,5", 7}, {"n0", 1}, {"n01", 1}, {"n101", 3}, {"n11", -1},
            {"n110", 3}, {"n1000", 4}, {"n1,", 2}, {"n", 1}, {"n;", 1}, {"n-1", 1}, {"n 1", 1}, {"n1;", 3},
            {"n1;;", 3}, {"n1;x", 3}, {"n1; n1", 3}, {"n1;n", 4}, {"n1;n0", 4}, {"n1n1", 2}, {"n1 ", 2},
            {"d1,1;c6", 6}, {"d1,1;n1;", 8}, {"n/", 1}, {"n:", 1}};
        for (Object[] text : texts) {
            Check.is((String) text[0], Texts.errorOf((String) text[0]), (Integer) text[1]);
        }
    }

    private static void everyCharacterBehindEveryBeginning() {
        String[] texts = {"c5,2,9,99,5000;n1", "c0,0,0,0,0;d0,0", "c3,1,4,50,499;r1,1,1", "r9,10,5000;c", "d7,70;m",
            "m1,11,4,1;r", "n100;d", "n10;n", "n99;n9"};
        for (String whole : texts) {
            for (int i = 0; i <= whole.length(); i++) {
                for (int code = 32; code <= 126; code++) {
                    String text = whole.substring(0, i) + (char) code;
                    Check.is(text, Texts.errorOf(text), Grammar.errorOf(text));
                }
            }
        }
    }

    private static void fullTexts() {
        StringBuilder longest = new StringBuilder("n1");
        for (int i = 0; i < 32; i++) {
            longest.append(";n1");
        }
        Check.is("33 commands", Texts.errorOf(longest.toString()), -1);
        Check.is("a semicolon behind them", Texts.errorOf(longest + ";"), 99);
        Check.is("100 characters, too short", Texts.errorOf(longest + ";n"), 100);
        Check.is("100 characters, wrong", Texts.errorOf(longest + ";;"), 99);
        Check.is("100 characters, valid", Texts.errorOf(longest + "00"), -1);
        Story x = new Story();
        Check.is("run of 33 commands", Texts.run(x, longest.toString()), 33);
        Check.is("each of them", x.day(), 33);
        Check.is("run of 100 characters", Texts.run(x, longest + "00"), 33);
        Check.is("with the last number whole", x.day(), 33 + 32 + 100);
    }

    private static void runText() {
        Story x = new Story();
        Check.is("create", Texts.run(x, "c5,2,9,99,5000"), 1);
        Check.is("undoable", x.savedStates(), 1);
        Check.is("the text stays", x.textLength(), 14);
        Check.is("its size", x.sizeOf(9, 99), 5000);
        Check.is("its owner", x.ownerOf(9, 99), 5);
        Check.is("its group", x.groupOf(9, 99), 2);
        Check.is("resize", Texts.run(x, "r9,99,123"), 1);
        Check.is("the new size", x.sizeOf(9, 99), 123);
        Check.is("the usage", x.usage(8, 0), 123);
        Check.is("move", Texts.run(x, "m9,99,3,1"), 1);
        Check.is("the new owner", x.ownerOf(9, 99), 3);
        Check.is("the new group", x.groupOf(9, 99), 1);
        Check.is("days", Texts.run(x, "n12"), 1);
        Check.is("the day", x.day(), 12);
        Check.is("delete", Texts.run(x, "d9,99"), 1);
        Check.is("no file", x.fileCount(), 0);
        Check.is("one state for each text", x.savedStates(), 5);
        Check.is("several", Texts.run(x, "c0,0,1,2,3;n4;r1,2,5;m1,2,1,1;c0,0,0,0,1;d0,0"), 6);
        Check.is("one more state", x.savedStates(), 6);
        Check.is("the file", x.sizeOf(1, 2), 5);
        Check.is("its owner now", x.ownerOf(1, 2), 1);
        Check.is("one file", x.fileCount(), 1);
        Check.is("the day then", x.day(), 16);
        Check.is("undone as one", x.undo(), 5);
        Check.is("no file then", x.fileCount(), 0);
        Check.is("the day before", x.day(), 12);
        Check.is("the text still stays", x.textLength(), 45);
        Check.is("and runs again", x.runText(), 6);
        Check.is("as a call of nextDays", Texts.run(x, "n7"), 1);
    }

    private static void runTextStops() {
        String[] stops = {"c0,0,0,0,9", "r0,1,1", "d0,1", "m0,1,0,0", "n100"};
        for (String stop : stops) {
            Story x = new Story();
            x.create(1, 1, 0, 0, 1);
            for (int i = 0; i < 99; i++) {
                x.nextDays(100);
            }
            x.nextDays(1);
            String before = Picture.ofState(x);
            Check.is("the first can't be executed: " + stop, Texts.run(x, stop + ";c2,2,2,2,2"), 0);
            Check.isSame("nothing is executed", Picture.ofState(x), before);
            x.clearText();
            Check.is("one is executed", Texts.run(x, "c2,2,2,3,3;" + stop + ";c2,2,2,2,2"), 1);
            Check.is("the first", x.sizeOf(2, 3), 3);
            Check.is("not the last", x.sizeOf(2, 2), -1);
            x.undo();
            Check.isSame("undone", Picture.ofState(x), before);
        }
        Story y = new Story();
        for (int i = 0; i < 59; i++) {
            y.create(0, 0, 0, i, 0);
        }
        Check.is("sixty files are the bound", Texts.run(y, "c0,0,1,0,0;c0,0,1,1,0;n1"), 1);
        Check.is("no day passes", y.day(), 0);
        Check.is("room again", Texts.run(y, "d1,0;c0,0,1,1,0;n1"), 3);
        Story z = new Story();
        Check.is("none executed is saved as well", Texts.run(z, "d0,0") * 10 + z.savedStates(), 1);
    }

    private static void runTextRefused() {
        Story x = new Story();
        x.setLimits(0, 0, 5, 10);
        Check.is("a refusal counts as executed", Texts.run(x, "c0,0,0,0,11;c0,0,0,1,6;n6;r0,1,11;n1;r0,1,7;n1"), 7);
        Check.is("the refusals", x.refusals(0), 3);
        Check.is("the size", x.sizeOf(0, 1), 6);
        Check.is("the day", x.day(), 8);
        int[][] due = {{4, 7}, {3, 7}, {4, 6}, {1, 0}, {4, 0}};
        Check.is("the events", x.eventCount(), 5);
        for (int i = 0; i < 5; i++) {
            Check.is("the kind of " + i, x.event(i, 0), due[i][0]);
            Check.is("the day of " + i, x.event(i, 3), due[i][1]);
        }
        Check.is("a refused move", Texts.run(x, "c1,1,1,1,9;m1,1,0,0;d1,1"), 3);
        Check.is("refused", x.refusals(0), 4);
    }
}
