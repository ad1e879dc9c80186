/** Compares answers with those that are due, and prints each that differs. */
final class Due {
    interface Call {
        long answer();
    }

    static final Class<IndexOutOfBoundsException> INDEX = IndexOutOfBoundsException.class;
    static final Class<IllegalArgumentException> ARGUMENT = IllegalArgumentException.class;
    static final Class<IllegalStateException> STATE = IllegalStateException.class;

    private int asked;
    private int wrong;

    void is(String call, long want, long got) {
        asked++;
        if (got != want) {
            wrong++;
            System.out.println(call + " answered " + got + ", due is " + want);
        }
    }

    void thrown(String call, Class<? extends RuntimeException> want, Call made) {
        asked++;
        Object got;
        try {
            got = made.answer();
        } catch (RuntimeException e) {
            got = e.getClass();
        }
        if (got != want) {
            wrong++;
            System.out.println(call + " gave " + got + ", due is " + want);
        }
    }

    static PlotLeases withText(String commands) {
        PlotLeases x = new PlotLeases();
        write(x, commands);
        return x;
    }

    static void write(PlotLeases x, String commands) {
        x.clearText();
        for (int i = 0; i < commands.length(); i++) {
            x.append(commands.charAt(i));
        }
    }

    static PlotLeases loaded(String commands) {
        PlotLeases x = withText(commands);
        x.load();
        return x;
    }

    /** All plots are let, three to each of the families 0 to 7. */
    static PlotLeases full() {
        PlotLeases x = new PlotLeases();
        for (int p = 0; p < 24; p++) {
            x.let(p / 3, p);
        }
        return x;
    }

    static String register(PlotLeases x, int p) {
        StringBuilder line = new StringBuilder();
        for (int i = 0; x.line(p, i) != PlotLeases.NONE; i++) {
            line.append((char) x.line(p, i));
        }
        return line.toString();
    }

    void registerIs(PlotLeases x, int p, String want) {
        asked++;
        String got = register(x, p);
        if (!got.equals(want)) {
            wrong++;
            System.out.println("the line of " + p + " is \"" + got + "\", due is \"" + want + "\"");
        }
    }

    void end() {
        System.out.println(asked + " answers, " + wrong + " not as due");
        if (wrong != 0) {
            System.exit(1);
        }
    }
}
