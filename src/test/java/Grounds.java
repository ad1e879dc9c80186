/** Grounds that tests begin with. */
final class Grounds {
    private Grounds() {
    }

    static void write(PlotLeases x, String commands) {
        x.clearText();
        for (int i = 0; i < commands.length(); i++) {
            x.append(commands.charAt(i));
        }
    }

    static PlotLeases withText(String commands) {
        PlotLeases x = new PlotLeases();
        write(x, commands);
        return x;
    }

    static PlotLeases loaded(String commands) {
        PlotLeases x = withText(commands);
        x.load();
        return x;
    }

    /** All plots are let, three to each of the families 0 to 7. */
    static PlotLeases full() {
        PlotLeases x = new PlotLeases();
        for (int p = 0; p < 24; p++) {
            x.let(p / 3, p);
        }
        return x;
    }

    /** All plots are let, and so many wait: the families 9 and 8 by turns. */
    static PlotLeases waited(int times) {
        PlotLeases x = full();
        for (int i = 0; i < times; i++) {
            x.ask(9 - i % 2);
        }
        return x;
    }

    /** The year is 30, so many wait, and this plot can be cleared, with one burial; all others are let for long. */
    static PlotLeases clearable(int times, int one) {
        PlotLeases x = waited(times);
        x.bury(one);
        for (int p = 0; p < 24; p++) {
            if (p != one) {
                x.renew(p, 99);
            }
        }
        x.run(30);
        return x;
    }

    /** All plots are let to family 1 but these two, which are free, and that of family 0. */
    static PlotLeases freeAre(int own, int one, int other) {
        PlotLeases x = new PlotLeases();
        for (int p = 0; p < 24; p++) {
            if (p != one && p != other) {
                x.let(p == own ? 0 : 1, p);
            }
        }
        return x;
    }

    /** The years of lease and of rest are these; one plot is let to family 1. */
    static PlotLeases let(int leaseYears, int restYears, int p) {
        PlotLeases x = new PlotLeases();
        x.set(0, leaseYears);
        x.set(1, restYears);
        x.let(1, p);
        return x;
    }

    /** Something of everything: burials, a dispute, two who wait, a text, remembered states, slot 1. */
    static PlotLeases rich() {
        PlotLeases x = full();
        write(x, "ask,7;run,3");
        x.bury(0);
        x.bury(0);
        x.bury(1);
        x.claim(3, 9);
        x.ask(9);
        x.set(4, 7);
        x.dig(1, 3);
        x.save(1);
        x.run(2);
        x.bury(23);
        x.ask(8);
        return x;
    }

    static String register(PlotLeases x, int p) {
        StringBuilder line = new StringBuilder();
        for (int c = x.line(p, 0); c != PlotLeases.NONE; c = x.line(p, line.length())) {
            line.append((char) c);
        }
        return line.toString();
    }
}
