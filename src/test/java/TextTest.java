import java.util.ArrayList;
import java.util.List;

/** What the document says under TEXT, and promises 2 to 5: append, clearText, errorPosition, load. */
final class TextTest {
    private static final Due due = new Due();
    private static final List<String> COMMANDS = commands();

    public static void main(String[] args) {
        append();
        roomOfTheText();
        clearText();
        oneOrMoreCommands();
        rangesOfNumbers();
        zerosAhead();
        noBlanks();
        firstCharacterThatIsNotAllowed();
        textEndsTooSoon();
        errorsByHand();
        longTexts();
        loadMakesAllAnew();
        loadForgets();
        loadKeepsTheText();
        loadLeavesOut();
        loadRefuses();
        due.end();
    }

    /** Every command that the document allows. */
    private static List<String> commands() {
        List<String> all = new ArrayList<>();
        for (int f = 0; f <= 9; f++) {
            all.add("ask," + f);
            for (int p = 0; p <= 23; p++) {
                all.add("let," + f + "," + p);
            }
        }
        for (int p = 0; p <= 23; p++) {
            all.add("bury," + p);
        }
        for (int years = 1; years <= 99; years++) {
            all.add("run," + years);
        }
        for (int row = 0; row <= 3; row++) {
            for (int depth = 1; depth <= 3; depth++) {
                all.add("dig," + row + "," + depth);
            }
        }
        return all;
    }

    // ---- append, clearText

    private static void append() {
        due.says("`c`: character code, 0 to 255 Returns the new length of the text."
                + " Throws `IllegalArgumentException` if c is out of range");
        PlotLeases x = new PlotLeases();
        int[] outside = {Integer.MIN_VALUE, -1, 256, Integer.MAX_VALUE};
        for (int c : outside) {
            due.thrown("append(" + c + ")", Due.ARGUMENT, () -> x.append(c));
        }
        due.is("append(0)", 1, x.append(0));
        due.is("append(255)", 2, x.append(255));
        due.is("clearText: what was refused is not there", 2, x.clearText());
        for (int c = 0; c < 256; c++) {
            PlotLeases y = new PlotLeases();
            due.is("append(" + c + ")", 1, y.append(c));
        }
    }

    private static void roomOfTheText() {
        due.says("The object has a text buffer of at most 120 characters.",
                "Throws `IllegalStateException` if the text already has 120 characters");
        PlotLeases x = new PlotLeases();
        for (int i = 1; i <= 120; i++) {
            due.is("append to " + (i - 1), i, x.append('a'));
        }
        due.thrown("append to 120", Due.STATE, () -> x.append('a'));
        due.thrown("append to 120 again", Due.STATE, () -> x.append('a'));
        due.thrown("append(256) to 120", Due.ARGUMENT, () -> x.append(256));
        due.thrown("append(-1) to 120", Due.ARGUMENT, () -> x.append(-1));
        due.is("clearText", 120, x.clearText());
        due.is("there is room then", 1, x.append('a'));
    }

    private static void clearText() {
        due.says("Empties the text buffer. Returns the previous length of the text.");
        PlotLeases x = new PlotLeases();
        due.is("of a new object", 0, x.clearText());
        x.append('a');
        due.is("of one character", 1, x.clearText());
        due.is("the text is empty", 0, x.errorPosition());
        due.is("again", 0, x.clearText());
        Grounds.write(x, "run,1;run,1");
        x.clearText();
        Grounds.write(x, "ask,2");
        due.is("only what came behind it is read", -1, x.errorPosition());
        due.is("and loaded", 0, x.load());
        due.is("no year went by", 0, x.about(0));
        due.is("family 2 has a plot", 2, x.plot(0, 0));
    }

    // ---- errorPosition

    private static void error(String text, int want) {
        due.is("errorPosition of \"" + text + "\"", want, Grounds.withText(text).errorPosition());
    }

    private static void oneOrMoreCommands() {
        due.says("A ground as a text is one or more commands with ; between them.");
        error("", 0);
        error(";", 0);
        error("ask,0", -1);
        error("ask,0;", 6);
        error(";ask,0", 0);
        error("ask,0;;ask,0", 6);
        error("ask,0;ask,1", -1);
        error("ask,0;ask,1;", 12);
        error("ask,0,ask,1", 5);
        error("ask,0ask,1", 5);
        for (String command : COMMANDS) {
            error(command, -1);
            error(command + ";" + command, -1);
            error(command + ";", command.length() + 1);
            error(command + ",", command.length());
        }
    }

    private static void rangesOfNumbers() {
        numbersBehind("ask, with a family (0 to 9)", "ask,", 0, 9, "");
        numbersBehind("let, with a family and a plot (0 to 23)", "let,", 0, 9, ",0");
        numbersBehind("let, with a family and a plot (0 to 23)", "let,9,", 0, 23, "");
        numbersBehind("bury, with a plot", "bury,", 0, 23, "");
        numbersBehind("run, with years (1 to 99)", "run,", 1, 99, "");
        numbersBehind("dig, with a row (0 to 3) and a depth (1 to 3)", "dig,", 0, 3, ",1");
        numbersBehind("dig, with a row (0 to 3) and a depth (1 to 3)", "dig,3,", 1, 3, "");
    }

    /** All numbers of up to four digits: behind the longest digits that begin one of the range, there is the error. */
    private static void numbersBehind(String words, String ahead, int lowest, int highest, String behind) {
        due.says(words);
        for (int number = 0; number <= 1200; number++) {
            String digits = Integer.toString(number);
            if (number >= lowest && number <= highest) {
                error(ahead + digits + behind, -1);
            } else {
                error(ahead + digits + behind, ahead.length() + digitsThatBeginOne(digits, lowest, highest));
            }
        }
        error(ahead + "-1", ahead.length());
        error(ahead + "2147483648", ahead.length() + digitsThatBeginOne("2147483648", lowest, highest));
    }

    private static int digitsThatBeginOne(String digits, int lowest, int highest) {
        int longest = 0;
        for (int number = lowest; number <= highest; number++) {
            String other = Integer.toString(number);
            int same = 0;
            while (same < digits.length() && same < other.length() && digits.charAt(same) == other.charAt(same)) {
                same++;
            }
            longest = Math.max(longest, same);
        }
        return longest;
    }

    private static void zerosAhead() {
        due.says("Numbers are without zeros ahead.");
        error("ask,00", 5);
        error("ask,05", 5);
        error("let,00,0", 5);
        error("let,0,00", 7);
        error("let,0,07", 7);
        error("bury,00", 6);
        error("bury,023", 6);
        error("run,0", 4);
        error("run,01", 4);
        error("dig,00,1", 5);
        error("dig,0,01", 6);
        error("bury,0", -1);
        error("bury,10", -1);
        error("run,10", -1);
        error("run,90", -1);
    }

    private static void noBlanks() {
        due.says("There are no blanks.");
        String text = "let,3,17;ask,0;run,99";
        for (int i = 0; i <= text.length(); i++) {
            error(text.substring(0, i) + " " + text.substring(i), i);
        }
    }

    /** At every place of some texts every character, compared with what the commands begin with. */
    private static void firstCharacterThatIsNotAllowed() {
        due.says("The error position is the index of the first character that these rules do not allow at its place"
                + " (a letter or a digit is not allowed if no word, or no number in its range, begins with it and"
                + " those before it)");
        String[] texts = {"ask,9;a", "let,2,23;l", "let,0,0", "let,9,19", "bury,2", "bury,17;bury", "run,9", "run,10;run",
            "dig,0,3;dig,3,1", "run,1;run,1;dig"};
        for (String text : texts) {
            for (int i = 0; i <= text.length(); i++) {
                String start = text.substring(0, i);
                for (char c = 0; c < 256; c++) {
                    error(start + c, errorBehind(start, c));
                }
            }
        }
    }

    private static int errorBehind(String start, char c) {
        String text = start + c;
        String last = text.substring(text.lastIndexOf(';') + 1);
        if (c == ';' && !COMMANDS.contains(start.substring(start.lastIndexOf(';') + 1))) {
            return start.length();
        }
        if (COMMANDS.contains(last)) {
            return -1;
        }
        for (String command : COMMANDS) {
            if (command.startsWith(last)) {
                return text.length();
            }
        }
        return start.length();
    }

    private static void textEndsTooSoon() {
        due.says("if the text ends too soon, it is the length of the text");
        for (String command : COMMANDS) {
            for (int i = 0; i < command.length(); i++) {
                String start = command.substring(0, i);
                if (!COMMANDS.contains(start)) {
                    error(start, i);
                    error("run,20;" + start, i + 7);
                }
            }
        }
    }

    private static void errorsByHand() {
        due.says("A command is a word and numbers, each behind a comma");
        error("ask0", 3);
        error("ask;0", 3);
        error("ask.0", 3);
        error("let,00", 5);
        error("let,0;0", 5);
        error("let0,0", 3);
        error("bury0", 4);
        error("0", 0);
        error("0,ask", 0);
        error(",ask,0", 0);
        error("ask,0,", 5);
        due.says("The text is read from left to right.");
        error("a", 1);
        error("asks", 3);
        error("ask", 3);
        error("ask,", 4);
        error("ask;", 3);
        error("ask,;", 4);
        error("ask,,", 4);
        error("ask,10", 5);
        error("ask,0,0", 5);
        error("Ask,0", 0);
        error("al", 1);
        error("let,9", 5);
        error("let,9;", 5);
        error("let,9,24", 7);
        error("let,9,30", 7);
        error("let,9,230", 8);
        error("let,9,0,", 7);
        error("burial", 3);
        error("run,100", 6);
        error("dig,3,11", 7);
        error("ask,\u00b2", 4);
        error("ask,0;x;y", 6);
        error("clear,0", 0);
        error("set,0,1", 0);
    }

    private static void longTexts() {
        due.says("NONE if it is a ground");
        String twenty = "ask,0;".repeat(19) + "run,10";
        error(twenty, -1);
        due.is("its length", 120, Grounds.withText(twenty).clearText());
        error("ask,0;".repeat(20), 120);
        error("ask,0;".repeat(19) + "run,1x", 119);
        error("ask,0;".repeat(19) + "let,9,", 120);
        error("ask,0;".repeat(19) + "bury,2", -1);
        error("ask,0;".repeat(19) + "bury,", 119);
    }

    // ---- load

    private static void loadMakesAllAnew() {
        due.says("Makes everything as in a new object, and then does the commands of the text.");
        PlotLeases x = Grounds.rich();
        for (int what = 0; what < 5; what++) {
            x.set(what, 7);
        }
        for (int row = 0; row < 4; row++) {
            x.dig(row, 1);
        }
        x.run(40);
        x.clear(0);
        Grounds.write(x, "run,5");
        due.is("load", 0, x.load());
        PlotLeases y = new PlotLeases();
        y.run(5);
        due.same("the numbers", Twin.numbers(y), Twin.numbers(x));
        PlotLeases z = Grounds.rich();
        Grounds.write(z, "run,5");
        z.load();
        Grounds.write(y, "run,5");
        due.same("all readings", Twin.readings(y), Twin.readings(z));
        PlotLeases w = Grounds.rich();
        Grounds.write(w, "ask,5;ask,4;let,4,23;bury,23;dig,3,1;run,2");
        due.is("load of each kind of command", 0, w.load());
        due.registerIs(w, 0, "p0 f5 0/2 29");
        due.registerIs(w, 1, "p1 f4 0/2 29");
        due.registerIs(w, 23, "p23 f4 1/1 29");
        due.is("the year", 2, w.about(0));
        due.is("load twice is as load once", 0, w.load());
        due.is("paid", 3 * 60 + 10, w.about(8));
        due.is("the year then", 2, w.about(0));
    }

    private static void loadForgets() {
        due.says("Behind it no state is remembered, and both save slots are empty.");
        PlotLeases x = Grounds.withText("ask,1;run,4;dig,0,3");
        for (int i = 0; i < 20; i++) {
            x.run(1);
        }
        x.save(0);
        x.save(1);
        x.load();
        due.thrown("undo", Due.STATE, () -> x.undo());
        due.thrown("restore(0)", Due.STATE, () -> x.restore(0));
        due.thrown("restore(1)", Due.STATE, () -> x.restore(1));
        x.run(1);
        due.is("undo of what comes behind", 0, x.undo());
        due.is("the year as it was loaded", 4, x.about(0));
        due.is("save", 4, x.save(1));
        due.is("restore", 4, x.restore(1));
        due.thrown("the other slot", Due.STATE, () -> x.restore(0));
    }

    private static void loadKeepsTheText() {
        due.says("Keeps the text.");
        PlotLeases x = Grounds.withText("ask,1;bury,0");
        x.load();
        due.is("errorPosition", -1, x.errorPosition());
        due.is("one character more", 13, x.append(';'));
        due.is("errorPosition then", 13, x.errorPosition());
        due.is("its length", 13, x.clearText());
    }

    private static void loadLeavesOut() {
        due.says("Commands that would throw an exception are left out.",
                "Returns the number of commands that are left out.");
        leftOut("ask,1", 0);
        leftOut("bury,0", 1);
        leftOut("bury,0;bury,23;bury,9", 3);
        leftOut("let,0,0;let,0,0", 1);
        leftOut("let,0,0;let,1,0;ask,0;ask,1", 1);
        leftOut("ask,0;bury,0;bury,0", 0);
        leftOut("ask,0;bury,0;bury,0;bury,0", 1);
        leftOut("dig,0,3;ask,0;bury,0;bury,0;bury,0", 0);
        leftOut("dig,0,1;ask,0;bury,0;bury,0;bury,0", 2);
        leftOut("ask,0;bury,0;run,29;bury,0", 0);
        leftOut("ask,0;bury,0;run,30;bury,0", 1);
        leftOut("ask,0;run,30;bury,0;let,1,0", 1);
        leftOut("bury,1;".repeat(16) + "bury,23", 17);
        PlotLeases x = Grounds.loaded("let,1,0;let,2,0;bury,1;bury,0");
        due.is("what is left out changes nothing", 1, x.plot(0, 0));
        due.is("what comes behind it is done", 1, x.plot(0, 2));
        due.is("nothing is paid for it", 70, x.about(8));
    }

    private static void leftOut(String text, int want) {
        due.is("load of " + text, want, Grounds.withText(text).load());
    }

    private static void loadRefuses() {
        due.says("Throws `IllegalStateException` if the text is not a ground");
        String[] wrong = {"", "ask", "ask,1;", "ask,1;;run,1", "ask,10", "run,100", "run,0", "let,1,24", "dig,4,1",
            "dig,3,4", "x", "ask,1 "};
        for (String text : wrong) {
            new Twin(due, () -> textOver(text)).refuses("load of \"" + text + "\"", Due.STATE, x -> x.load());
        }
    }

    private static PlotLeases textOver(String text) {
        PlotLeases x = Grounds.rich();
        Grounds.write(x, text);
        return x;
    }
}
