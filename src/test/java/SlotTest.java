/** Promises 31 and 32: save, restore. */
final class SlotTest {
    private static final Due due = new Due();

    public static void main(String[] args) {
        PlotLeases x = new PlotLeases();
        due.thrown("save(-1)", Due.INDEX, () -> x.save(-1));
        due.thrown("save(2)", Due.INDEX, () -> x.save(2));
        due.thrown("restore(-1)", Due.INDEX, () -> x.restore(-1));
        due.thrown("restore(2)", Due.INDEX, () -> x.restore(2));
        due.thrown("restore(0)", Due.STATE, () -> x.restore(0));
        due.thrown("restore(1)", Due.STATE, () -> x.restore(1));
        x.let(1, 4);
        x.bury(4);
        x.set(0, 40);
        x.dig(2, 3);
        x.run(7);
        due.is("save(1)", 7, x.save(1));
        due.thrown("the other slot is empty", Due.STATE, () -> x.restore(0));
        x.claim(4, 9);
        x.run(3);
        x.set(0, 50);
        due.is("save(0)", 10, x.save(0));
        due.is("save is no action: undo", 6, undone(x, 2));
        due.is("the year after undo", 7, x.about(0));
        due.is("the slot keeps what undo took back", 10, x.restore(0));
        due.is("the claimant", 9, x.plot(4, 4));
        due.is("the setting", 50, x.setting(0));
        due.thrown("undo behind restore", Due.STATE, () -> x.undo());
        x.append('a');
        due.is("restore(1)", 7, x.restore(1));
        due.is("no claimant", -1, x.plot(4, 4));
        due.is("the burial", 0, x.burial(4, 0));
        due.is("the setting of it", 40, x.setting(0));
        due.is("the depth of it", 3, x.depth(2));
        due.is("the text is no part of the state", 1, x.clearText());
        x.run(5);
        due.is("undo behind a restore and an action", 0, x.undo());
        x.run(6);
        due.is("restore(1) again", 7, x.restore(1));
        x.run(1);
        due.is("save over it", 8, x.save(1));
        due.is("restore of that", 8, x.restore(1));
        due.is("restore of the other one", 10, x.restore(0));
        Due.write(x, "ask,0");
        x.load();
        due.thrown("restore(0) behind load", Due.STATE, () -> x.restore(0));
        due.thrown("restore(1) behind load", Due.STATE, () -> x.restore(1));
        due.is("save behind load", 0, x.save(0));
        due.is("restore behind it", 0, x.restore(0));
        due.is("its plot", 0, x.plot(0, 0));
        burialsAndWaiters();
        due.end();
    }

    private static void burialsAndWaiters() {
        PlotLeases x = new PlotLeases();
        for (int p = 0; p < 24; p++) {
            x.let(0, p);
            x.bury(p);
        }
        for (int i = 0; i < 12; i++) {
            x.ask(i < 9 ? 9 - i : 5 - i % 3);
        }
        x.save(0);
        x.run(30);
        for (int p = 0; p < 24; p++) {
            x.clear(p);
        }
        x.run(1);
        for (int p = 0; p < 24; p++) {
            if (x.plot(p, 5) == 0) {
                x.let(9, p);
            }
            x.bury(p);
        }
        for (int i = 0; i < 12; i++) {
            x.ask(0);
        }
        x.restore(0);
        for (int p = 0; p < 24; p++) {
            due.is("burial(" + p + ", 0) is that of the slot", 0, x.burial(p, 0));
            due.is("burial(" + p + ", 1) is that of the slot", -1, x.burial(p, 1));
        }
        for (int i = 0; i < 13; i++) {
            due.is("waiting(" + i + ") is that of the slot", i < 9 ? 9 - i : i < 12 ? 5 - i % 3 : -1, x.waiting(i));
        }
    }

    private static int undone(PlotLeases x, int times) {
        int left = 0;
        for (int i = 0; i < times; i++) {
            left = x.undo();
        }
        return left;
    }
}
