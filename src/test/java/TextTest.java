/** Promises 2 to 5: append, clearText, errorPosition, load. */
final class TextTest {
    private static final Due due = new Due();

    public static void main(String[] args) {
        appendAndClear();
        errors();
        load();
        loadStartsAnew();
        due.end();
    }

    private static void appendAndClear() {
        PlotLeases x = new PlotLeases();
        due.is("clearText of a new object", 0, x.clearText());
        due.thrown("append(-1)", Due.ARGUMENT, () -> x.append(-1));
        due.thrown("append(256)", Due.ARGUMENT, () -> x.append(256));
        due.is("append(0)", 1, x.append(0));
        due.is("append(255)", 2, x.append(255));
        for (int i = 3; i <= 120; i++) {
            due.is("append", i, x.append('a'));
        }
        due.thrown("append to 120", Due.STATE, () -> x.append('a'));
        due.thrown("append(256) to 120", Due.ARGUMENT, () -> x.append(256));
        due.is("clearText of 120", 120, x.clearText());
        due.is("clearText again", 0, x.clearText());
        due.is("append after it", 1, x.append('a'));
        x.ask(0);
        due.thrown("no undo of texts", Due.STATE, () -> x.undo() + x.undo());
        due.is("the text stays", 1, x.clearText());
    }

    private static void error(String text, int want) {
        due.is("errorPosition of \"" + text + "\"", want, Due.withText(text).errorPosition());
    }

    private static void errors() {
        String[] grounds = {"ask,0", "ask,9", "let,0,0", "let,9,23", "let,9,19", "let,3,9", "bury,0", "bury,10", "bury,23",
            "run,1", "run,9", "run,10", "run,99", "dig,0,1", "dig,3,3", "dig,0,2;ask,1;run,30;bury,0"};
        for (String ground : grounds) {
            error(ground, PlotLeases.NONE);
            error(ground + ";", ground.length() + 1);
            error(ground + ",", ground.length());
            error(ground + " ", ground.length());
            error(ground + ";;", ground.length() + 1);
            error(ground + ";ask", ground.length() + 4);
            error(ground + ";ask,0", PlotLeases.NONE);
            error(" " + ground, 0);
            error(";" + ground, 0);
            error("x" + ground, 0);
        }
        error("", 0);
        error("a", 1);
        error("asks", 3);
        error("ask", 3);
        error("ask,", 4);
        error("ask0", 3);
        error("ask;", 3);
        error("ask,;", 4);
        error("ask,,", 4);
        error("ask, 0", 4);
        error("ask,-1", 4);
        error("ask,00", 5);
        error("ask,10", 5);
        error("ask,0,0", 5);
        error("Ask,0", 0);
        error("aet", 1);
        error("al", 1);
        error("let,9", 5);
        error("let,9;", 5);
        error("let,9,", 6);
        error("let,9,24", 7);
        error("let,9,3", PlotLeases.NONE);
        error("let,9,30", 7);
        error("let,10", 5);
        error("let,9,230", 8);
        error("let,9,0,", 7);
        error("bury,03", 6);
        error("bury,24", 6);
        error("bury", 4);
        error("burial", 3);
        error("run,0", 4);
        error("run,100", 6);
        error("run,01", 4);
        error("dig,4", 4);
        error("dig,3,0", 6);
        error("dig,3,4", 6);
        error("dig,3,11", 7);
        error("dig,00", 5);
        error("digs", 3);
        error("ask,\u00b2", 4);
        error("clear,0", 0);
    }

    private static void load() {
        PlotLeases empty = new PlotLeases();
        due.thrown("load without a text", Due.STATE, () -> empty.load());
        PlotLeases wrong = Due.withText("ask,1;");
        wrong.ask(2);
        due.thrown("load of no ground", Due.STATE, () -> wrong.load());
        due.is("nothing is changed by it", 2, wrong.plot(0, 0));
        PlotLeases x = Due.withText("ask,1;bury,0;bury,0;bury,0;let,2,0;let,2,7;dig,1,3;run,31;bury,7;bury,5");
        due.is("load", 4, x.load());
        due.is("the year then", 31, x.about(0));
        due.is("the free plots then", 23, x.about(1));
        due.is("the depth then", 3, x.depth(1));
        due.is("burials then", 2, x.about(6));
        due.is("paid then", 60 + 20 + 60, x.about(8));
        due.is("load again", 4, x.load());
        due.is("paid then, anew", 140, x.about(8));
        due.is("the text is kept", "ask,1;bury,0;bury,0;bury,0;let,2,0;let,2,7;dig,1,3;run,31;bury,7;bury,5".length(),
                x.clearText());
        PlotLeases longest = Due.withText("ask,0;ask,0;ask,0;ask,0;ask,0;ask,0;ask,0;ask,0;ask,0;ask,0;"
                + "ask,0;ask,0;ask,0;ask,0;ask,0;ask,0;ask,0;ask,0;ask,0;run,10");
        due.is("a text of 120", 120, longest.clearText());
        Due.write(longest, "ask,0;ask,0;ask,0;ask,0;ask,0;ask,0;ask,0;ask,0;ask,0;ask,0;"
                + "ask,0;ask,0;ask,0;ask,0;ask,0;ask,0;ask,0;ask,0;ask,0;run,10");
        due.is("load of 120", 0, longest.load());
        due.is("its plots", 19, longest.family(0, 0));
    }

    private static void loadStartsAnew() {
        PlotLeases x = Due.withText("run,5");
        for (int what = 0; what < 5; what++) {
            x.set(what, 7);
        }
        for (int row = 0; row < 4; row++) {
            x.dig(row, 1);
        }
        x.let(0, 5);
        x.bury(5);
        x.claim(5, 3);
        x.let(1, 6);
        x.bury(6);
        x.run(8);
        x.clear(6);
        due.is("the ossuary ahead of load", 1, x.about(7));
        due.is("the town paid ahead of load", 7, x.about(9));
        for (int i = 0; i < 25; i++) {
            x.ask(9);
        }
        x.save(0);
        x.save(1);
        due.is("load", 0, x.load());
        due.is("the year", 5, x.about(0));
        due.is("the free plots", 24, x.about(1));
        for (int what = 2; what < 10; what++) {
            due.is("about " + what, 0, x.about(what));
        }
        for (int f = 0; f < 10; f++) {
            due.is("paid by " + f, 0, x.family(f, 5));
        }
        int[] settings = {30, 20, 2, 10, 5};
        for (int what = 0; what < 5; what++) {
            due.is("setting " + what, settings[what], x.setting(what));
        }
        for (int row = 0; row < 4; row++) {
            due.is("depth " + row, 2, x.depth(row));
        }
        due.thrown("undo behind load", Due.STATE, () -> x.undo());
        due.thrown("restore(0) behind load", Due.STATE, () -> x.restore(0));
        due.thrown("restore(1) behind load", Due.STATE, () -> x.restore(1));
    }
}
