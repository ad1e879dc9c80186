/**
 * Objects that are made in the same way: one as it is, and one with a call more. They must answer all calls
 * alike if that call changes nothing. No object is asked more than 512 calls: each look at it has a new one.
 */
final class Twin {
    interface Making {
        PlotLeases made();
    }

    interface Change {
        long on(PlotLeases x);
    }

    private static final int LOOKS = 4;

    private final Due due;
    private final Making making;
    private final String[] before = new String[LOOKS];

    Twin(Due due, Making making) {
        this.due = due;
        this.making = making;
        for (int look = 0; look < LOOKS; look++) {
            before[look] = looked(making.made(), look);
        }
    }

    /** The call throws this, and changes nothing. */
    void refuses(String call, Class<? extends RuntimeException> want, Change change) {
        PlotLeases asked = making.made();
        due.thrown(call, want, () -> change.on(asked));
        unchangedBy(call, change);
    }

    /** The call answers this, and changes nothing. */
    void keeps(String call, long want, Change change) {
        due.is(call, want, change.on(making.made()));
        unchangedBy(call, change);
    }

    private void unchangedBy(String call, Change change) {
        for (int look = 0; look < LOOKS; look++) {
            PlotLeases x = making.made();
            answerOf(x, change);
            due.same("behind " + call + ", look " + look, before[look], looked(x, look));
        }
    }

    private static String looked(PlotLeases x, int look) {
        switch (look) {
            case 0:
                return readings(x);
            case 1:
                return lines(x);
            case 2:
                return undone(x);
            default:
                return slotsAndText(x);
        }
    }

    /** What all methods answer that change nothing, but the lines. */
    static String readings(PlotLeases x) {
        StringBuilder all = new StringBuilder(numbers(x));
        for (int p = 0; p < 24; p++) {
            all.append("\np").append(p);
            for (int what = 0; what < 6; what++) {
                all.append(' ').append(x.plot(p, what));
            }
            for (int k = 0; k < 3; k++) {
                all.append(' ').append(x.burial(p, k));
            }
            all.append(' ').append(x.clearFrom(p));
        }
        for (int f = 0; f < 10; f++) {
            all.append("\nf").append(f);
            for (int what = 0; what < 6; what++) {
                all.append(' ').append(x.family(f, what));
            }
            all.append(' ').append(x.plotFor(f)).append(' ').append(x.whenFor(f));
        }
        all.append('\n').append(x.errorPosition());
        all.append(' ').append(x.coming(40, 0)).append(' ').append(x.coming(40, 3));
        all.append(' ').append(x.runScript(2, 1900_9001L)).append(' ').append(x.simulate(5, 60));
        return all.toString();
    }

    /** The numbers of the whole ground. */
    static String numbers(PlotLeases x) {
        StringBuilder all = new StringBuilder();
        for (int what = 0; what < 10; what++) {
            all.append(x.about(what)).append(' ');
        }
        for (int k = 0; k < 12; k++) {
            all.append(x.waiting(k)).append(' ');
        }
        for (int row = 0; row < 4; row++) {
            all.append(x.depth(row)).append(' ');
        }
        for (int what = 0; what < 5; what++) {
            all.append(x.setting(what)).append(' ');
        }
        return all.toString();
    }

    static String lines(PlotLeases x) {
        StringBuilder all = new StringBuilder();
        for (int p = 0; p < 24; p++) {
            all.append(Grounds.register(x, p)).append('\n');
        }
        return all.toString();
    }

    /** How far undo goes back, and where it comes to. */
    private static String undone(PlotLeases x) {
        StringBuilder all = new StringBuilder();
        for (int i = 0; i < 15; i++) {
            all.append(answerOf(x, y -> y.undo())).append(": ");
            for (int what = 0; what < 10; what++) {
                all.append(x.about(what)).append(' ');
            }
        }
        return all.append(numbers(x)).toString();
    }

    private static String slotsAndText(PlotLeases x) {
        StringBuilder all = new StringBuilder();
        for (int slot = 0; slot < 2; slot++) {
            int from = slot;
            all.append(answerOf(x, y -> y.restore(from))).append(' ').append(numbers(x));
        }
        all.append(answerOf(x, y -> y.load())).append(' ').append(numbers(x));
        return all.append(x.clearText()).toString();
    }

    private static String answerOf(PlotLeases x, Change change) {
        try {
            return Long.toString(change.on(x));
        } catch (RuntimeException e) {
            return e.getClass().getName();
        }
    }
}
