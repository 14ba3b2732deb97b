/** Term 7 and the promises 11 to 14 at their boundaries: the text buffer, error positions, and runs of texts. */
public final class TextTermsTest {
    private static final String[] KINDS = {"c", "r", "d", "m", "n"};
    private static final int[][] LEAST = {{0, 0, 0, 0, 0}, {0, 0, 0}, {0, 0}, {0, 0, 0, 0}, {1}};
    private static final int[][] GREATEST = {{5, 2, 9, 99, 5000}, {9, 99, 5000}, {9, 99}, {9, 99, 5, 2}, {100}};

    public static void main(String[] args) {
        empty();
        firstCharacters();
        for (int kind = 0; kind < KINDS.length; kind++) {
            for (int place = 0; place < LEAST[kind].length; place++) {
                numberInRange(kind, place);
                numberTooGreat(kind, place);
                numberTooSmall(kind, place);
                leadingZeros(kind, place);
                noNumber(kind, place);
                tooFewNumbers(kind, place);
            }
            tooManyNumbers(kind);
            semicolons(kind);
            everyBeginning(kind);
        }
        textsOfAnyLength();
        fullBuffer();
        clearText();
        runOfOneCommand();
        runOfMostCommands();
        runEndsBeforeAnException();
        runEndsBeforeTheFile61();
        runOfDaysToTheLast();
        runGoesOnBehindARefusal();
        runIsOneCall();
        runIsSavedEvenWithoutACommand();
        Check.end();
    }

    private static String join(String kind, String[] numbers) {
        return kind + String.join(",", numbers);
    }

    /** A command with the least numbers, but for one place. */
    private static String command(int kind, int place, String number) {
        String[] numbers = new String[LEAST[kind].length];
        for (int i = 0; i < numbers.length; i++) {
            numbers[i] = i == place ? number : "" + LEAST[kind][i];
        }
        return join(KINDS[kind], numbers);
    }

    /** The index at which the number in a place begins; those before it have one digit. */
    private static int indexOf(int place) {
        return 1 + 2 * place;
    }

    /** The error position must be the same wherever the command stands. */
    private static void error(String text, int due) {
        Check.is(text, Texts.errorOf(text), due);
        Check.is("n1;" + text, Texts.errorOf("n1;" + text), due == -1 ? -1 : 3 + due);
        Check.is("d9,99;" + text, Texts.errorOf("d9,99;" + text), due == -1 ? -1 : 6 + due);
    }

    /** "Or it is empty: the error position is the length of the text." */
    private static void empty() {
        Check.is("an empty text", Texts.errorOf(""), 0);
    }

    /** A command begins with one of five characters. */
    private static void firstCharacters() {
        for (int code = 32; code <= 126; code++) {
            boolean known = "crdmn".indexOf(code) >= 0;
            error("" + (char) code, known ? 1 : 0);
        }
    }

    /** "The owner (0 to 5), the group (0 to 2)" and so on: the least and the greatest number, and one less. */
    private static void numberInRange(int kind, int place) {
        int least = LEAST[kind][place];
        int greatest = GREATEST[kind][place];
        for (int number : new int[] {least, least + 1, greatest - 1, greatest}) {
            error(command(kind, place, "" + number), -1);
        }
    }

    /** The number above the greatest is wrong from its last digit on, and so is one with a digit more. */
    private static void numberTooGreat(int kind, int place) {
        int greatest = GREATEST[kind][place];
        String above = "" + (greatest + 1);
        error(command(kind, place, above), indexOf(place) + above.length() - 1);
        String longer = greatest + "0";
        error(command(kind, place, longer), indexOf(place) + longer.length() - 1);
        String endless = greatest + "0000000000";
        error(command(kind, place, endless), indexOf(place) + longer.length() - 1);
    }

    private static void numberTooSmall(int kind, int place) {
        error(command(kind, place, "-1"), indexOf(place));
        error(command(kind, place, "" + (LEAST[kind][place] - 1)), indexOf(place));
    }

    /** "A decimal number without leading zeros (0 is written as "0")." */
    private static void leadingZeros(int kind, int place) {
        int wrong = indexOf(place) + (LEAST[kind][place] == 0 ? 1 : 0);
        error(command(kind, place, "00"), wrong);
        error(command(kind, place, "01"), wrong);
        error(command(kind, place, "0" + GREATEST[kind][place]), wrong);
    }

    private static void noNumber(int kind, int place) {
        error(command(kind, place, ""), indexOf(place));
        for (String wrong : new String[] {" 1", "+1", "x", "/", ":", ".", "-", ";"}) {
            error(command(kind, place, wrong), indexOf(place));
        }
        error(command(kind, place, "1 "), indexOf(place) + 1);
        error(command(kind, place, "1x"), indexOf(place) + 1);
        error(command(kind, place, "1/"), indexOf(place) + 1);
        error(command(kind, place, "1:"), indexOf(place) + 1);
    }

    /** "The text is not valid (it ends too early): the error position is the length of the text." */
    private static void tooFewNumbers(int kind, int place) {
        String text = command(kind, place, "" + LEAST[kind][place]).substring(0, indexOf(place));
        error(text, text.length());
        boolean last = place == LEAST[kind].length - 1;
        error(text + "1", last ? -1 : text.length() + 1);
        if (!last) {
            error(text + "1;", text.length() + 1);
            error(text + "1,", text.length() + 2);
        }
    }

    private static void tooManyNumbers(int kind) {
        String text = command(kind, 0, "1");
        error(text + ",", text.length());
        error(text + ",0", text.length());
    }

    /** "One or more commands, with one semicolon between two commands." */
    private static void semicolons(int kind) {
        String text = command(kind, 0, "1");
        error(text + ";" + text, -1);
        error(";" + text, 0);
        error(text + ";", text.length() + 1);
        error(text + ";;" + text, text.length() + 1);
        error(text + text, text.length());
        error(text + " ;" + text, text.length());
        error(text + "; " + text, text.length() + 1);
        error(text + "," + text, text.length());
    }

    /** Of a valid text each beginning is valid as well, or ends too early. */
    private static void everyBeginning(int kind) {
        String[] numbers = new String[GREATEST[kind].length];
        for (int i = 0; i < numbers.length; i++) {
            numbers[i] = "" + GREATEST[kind][i];
        }
        String text = join(KINDS[kind], numbers) + ";" + command(kind, 0, "1");
        for (int length = 0; length <= text.length(); length++) {
            String beginning = text.substring(0, length);
            int got = Texts.errorOf(beginning);
            Check.is(beginning, got == -1 || got == length, true);
            boolean complete = length > 1 && Character.isDigit(beginning.charAt(length - 1))
                    && beginning.substring(beginning.indexOf(';') + 1).split(",").length == LEAST[kind].length;
            Check.is(beginning, got == -1, complete);
        }
    }

    /** "No valid text of any length": a text may need more characters than the buffer holds. */
    private static void textsOfAnyLength() {
        String most = "n1" + ";n1".repeat(32);
        Check.is("98 characters", Texts.errorOf(most), -1);
        Check.is("99 characters, too short", Texts.errorOf(most + ";"), 99);
        Check.is("100 characters, too short", Texts.errorOf(most + ";n"), 100);
        Check.is("100 characters, too short", Texts.errorOf(most + "0;"), 100);
        Check.is("100 characters, wrong at the last", Texts.errorOf(most + ";0"), 99);
        Check.is("100 characters, wrong at the last", Texts.errorOf(most + "0,"), 99);
        Check.is("100 characters, valid", Texts.errorOf(most + "00"), -1);
        String middle = "n10" + ";n1".repeat(32);
        Check.is("99 characters, valid", Texts.errorOf(middle), -1);
        Check.is("100 characters, a number that can go on", Texts.errorOf(middle + "0"), -1);
        Check.is("100 characters, a command that can't be whole", Texts.errorOf(middle + ";"), 100);
    }

    /** "The text buffer holds at most 100 characters and is empty at first." */
    private static void fullBuffer() {
        Story x = new Story();
        Check.is("empty", x.textLength(), 0);
        for (int i = 1; i <= 100; i++) {
            Check.is("the length after the call", x.appendText(i % 2 == 0 ? 32 : 126), i);
        }
        Check.isRefused("one more", Check.STATE, x, () -> x.appendText(32));
        Check.is("full", x.textLength(), 100);
        Check.is("the length before the call", x.clearText(), 100);
        Check.is("empty again", x.textLength(), 0);
    }

    /** "Returns the length of the text before the call." */
    private static void clearText() {
        Story x = new Story();
        Check.is("of an empty text", x.clearText(), 0);
        x.appendText('n');
        Check.is("of one character", x.clearText(), 1);
        Check.is("of none again", x.clearText(), 0);
        Texts.put(x, "x1");
        x.clearText();
        x.appendText('n');
        Check.is("nothing stands behind the new one", x.errorPosition(), 1);
    }

    private static void runOfOneCommand() {
        String[] texts = {"c5,2,9,98,5000", "r0,0,5000", "m0,0,5,2", "d0,0", "n1"};
        for (String text : texts) {
            Story byText = new Story();
            Story byCall = new Story();
            byText.create(0, 0, 0, 0, 7);
            byCall.create(0, 0, 0, 0, 7);
            Check.is(text, Texts.run(byText, text), 1);
            call(byCall, text);
            Check.isSame(text + " does what the method does", Picture.ofState(byText), Picture.ofState(byCall));
            Check.is("the text stays", byText.textLength(), text.length());
        }
    }

    private static int call(Story x, String text) {
        switch (text.charAt(0)) {
            case 'c':
                return x.create(5, 2, 9, 98, 5000);
            case 'r':
                return x.resize(0, 0, 5000);
            case 'm':
                return x.move(0, 0, 5, 2);
            case 'd':
                return x.delete(0, 0);
            default:
                return x.nextDays(1);
        }
    }

    /** 33 commands of two characters and the semicolons between them are all that a text can hold. */
    private static void runOfMostCommands() {
        Story x = new Story();
        Check.is("33 commands", Texts.run(x, "n1" + ";n1".repeat(32)), 33);
        Check.is("33 days", x.day(), 33);
        Check.is("32 commands and a longer one", Texts.run(x, "n1;".repeat(32) + "n100"), 33);
        Check.is("the days", x.day(), 33 + 132);
    }

    /** "Execution ends before the first command for which the method would throw an exception." */
    private static void runEndsBeforeAnException() {
        String[][] texts = {{"c1,1,0,0,1", "c1,1,0,1,1"}, {"r0,1,1", "r0,0,1"}, {"d0,1", "d0,0"},
            {"m0,1,1,1", "m0,0,1,1"}};
        for (String[] pair : texts) {
            Story x = new Story();
            x.create(0, 0, 0, 0, 7);
            String before = Picture.ofState(x);
            Check.is(pair[0] + " first", Texts.run(x, pair[0] + ";n1;n1"), 0);
            Check.isSame(pair[0] + " is not executed", Picture.ofState(x), before);
            Check.is(pair[0] + " in the midst", Texts.run(x, "n1;" + pair[0] + ";n1"), 1);
            Check.is("one day", x.day(), 1);
            Check.is(pair[0] + " last", Texts.run(x, "n1;n1;" + pair[0]), 2);
            Check.is("two days more", x.day(), 3);
            Check.is(pair[1] + " throws nothing", Texts.run(x, "n1;" + pair[1] + ";n1"), 3);
            Check.is("two days more", x.day(), 5);
        }
    }

    private static void runEndsBeforeTheFile61() {
        Story x = new Story();
        for (int i = 0; i < 59; i++) {
            x.create(0, 0, 0, i, 0);
        }
        Check.is("the file 60", Texts.run(x, "c0,0,1,0,5"), 1);
        String before = Picture.ofState(x);
        Check.is("the file 61", Texts.run(x, "c0,0,1,1,5;n1"), 0);
        Check.isSame("it is not executed", Picture.ofState(x), before);
        Check.is("room for one", Texts.run(x, "d0,0;c0,0,1,1,5;c0,0,1,2,5;n1"), 2);
        Check.is("sixty files", x.fileCount(), 60);
    }

    private static void runOfDaysToTheLast() {
        daysFrom(10000, "n1;n1", 0, 10000);
        daysFrom(9999, "n1;n1", 1, 10000);
        daysFrom(9999, "n2;n1", 0, 9999);
        daysFrom(9998, "n2;n1", 1, 10000);
        daysFrom(9998, "n1;n1;n1", 2, 10000);
        daysFrom(9901, "n99;n1", 1, 10000);
        daysFrom(9901, "n100;n1", 0, 9901);
        daysFrom(9900, "n100;n1", 1, 10000);
    }

    private static void daysFrom(int day, String text, int executed, int dayAfter) {
        Story x = new Story();
        for (int left = day; left > 0; left -= 100) {
            x.nextDays(Math.min(left, 100));
        }
        Check.is(text + " on the day " + day, Texts.run(x, text), executed);
        Check.is("the day after " + text, x.day(), dayAfter);
    }

    /** "An operation that is refused counts as executed, and execution goes on behind it." */
    private static void runGoesOnBehindARefusal() {
        String[] texts = {"c0,0,0,1,1", "r0,0,8", "m1,1,0,0"};
        for (String text : texts) {
            Story x = new Story();
            x.create(0, 0, 0, 0, 7);
            x.create(1, 1, 1, 1, 7);
            x.setLimits(0, 0, 0, 7);
            Check.is(text + " is refused first", Texts.run(x, text + ";n1"), 2);
            Check.is("a day passes", x.day(), 1);
            Check.is(text + " is refused last", Texts.run(x, "n1;" + text), 2);
            Check.is(text + " is refused alone", Texts.run(x, text), 1);
            Check.is("three refusals", x.refusals(0), 3);
        }
    }

    /** "Undoable, as one call." */
    private static void runIsOneCall() {
        Story x = new Story();
        x.create(0, 0, 0, 0, 7);
        String before = Picture.ofState(x);
        Check.is("many commands", Texts.run(x, "c1,1,1,1,1;r0,0,9;m0,0,2,2;d1,1;n100;n7;d0,0"), 7);
        Check.is("one state more", x.savedStates(), 2);
        Check.is("one remains", x.undo(), 1);
        Check.isSame("all are undone", Picture.ofState(x), before);
    }

    /** "Also if no command is executed." */
    private static void runIsSavedEvenWithoutACommand() {
        Story x = new Story();
        String before = Picture.ofState(x);
        for (int i = 1; i <= 7; i++) {
            Check.is("none is executed", Texts.run(x, "d0,0;n1"), 0);
            Check.is("saved", x.savedStates(), Math.min(i, 6));
        }
        Check.isSame("nothing changes", Picture.ofState(x), before);
    }
}
