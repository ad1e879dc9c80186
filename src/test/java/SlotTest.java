/** Promises 31 and 32: save, restore. */
final class SlotTest {
    private static final int[] OUTSIDE = {Integer.MIN_VALUE, -1, 2, Integer.MAX_VALUE};

    private static final Due due = new Due();

    public static void main(String[] args) {
        save();
        saveIsNoAction();
        restore();
        restoreOfNothing();
        restoreForgets();
        slotKeepsTheState();
        wholeState();
        burialsAndWaiters();
        due.end();
    }

    private static void save() {
        due.says("Returns the year. Throws `IndexOutOfBoundsException` if there is no such save slot");
        PlotLeases x = new PlotLeases();
        for (int slot : OUTSIDE) {
            due.thrown("save(" + slot + ")", Due.INDEX, () -> x.save(slot));
        }
        due.is("save(0)", 0, x.save(0));
        x.run(7);
        due.is("save(1)", 7, x.save(1));
        x.run(99);
        due.is("save(0) over it", 106, x.save(0));
        due.is("restore(1)", 7, x.restore(1));
        due.is("restore(0)", 106, x.restore(0));
    }

    private static void saveIsNoAction() {
        due.says("Stores the present state in a save slot.");
        PlotLeases x = new PlotLeases();
        x.run(7);
        x.save(0);
        x.save(1);
        due.is("undo takes back the run, not the save", 0, x.undo());
        due.is("the year", 0, x.about(0));
        due.is("the slot has the state as it was then", 7, x.restore(0));
        due.is("the other one too", 7, x.restore(1));
    }

    private static void restore() {
        due.says("Returns the year then. Throws `IndexOutOfBoundsException` if there is no such save slot");
        PlotLeases x = new PlotLeases();
        x.run(3);
        x.save(0);
        x.run(4);
        x.save(1);
        for (int slot : OUTSIDE) {
            due.thrown("restore(" + slot + ")", Due.INDEX, () -> x.restore(slot));
        }
        due.is("restore(0)", 3, x.restore(0));
        due.is("the year", 3, x.about(0));
        due.is("restore(1)", 7, x.restore(1));
        due.is("the year", 7, x.about(0));
    }

    private static void restoreOfNothing() {
        due.says("Throws `IllegalStateException` if nothing has been saved in it since the last load");
        PlotLeases x = Grounds.withText("ask,0");
        due.thrown("restore(0) of a new object", Due.STATE, () -> x.restore(0));
        due.thrown("restore(1) of a new object", Due.STATE, () -> x.restore(1));
        due.thrown("restore(2) of a new object", Due.INDEX, () -> x.restore(2));
        due.thrown("restore(-1) of a new object", Due.INDEX, () -> x.restore(-1));
        x.save(1);
        due.thrown("restore(0) behind save(1)", Due.STATE, () -> x.restore(0));
        due.is("restore(1) behind save(1)", 0, x.restore(1));
        x.save(0);
        x.load();
        due.thrown("restore(0) behind load", Due.STATE, () -> x.restore(0));
        due.thrown("restore(1) behind load", Due.STATE, () -> x.restore(1));
        x.save(0);
        due.is("restore(0) behind load and save(0)", 0, x.restore(0));
        due.is("its plot", 0, x.plot(0, 0));
        due.thrown("restore(1) behind load and save(0)", Due.STATE, () -> x.restore(1));
        x.append(';');
        due.thrown("load of no ground", Due.STATE, () -> x.load());
        due.is("restore(0) behind that", 0, x.restore(0));
    }

    private static void restoreForgets() {
        due.says("Replaces the state by the one in a save slot, and forgets all remembered states.");
        PlotLeases x = new PlotLeases();
        x.save(0);
        for (int i = 0; i < 15; i++) {
            x.run(1);
        }
        x.restore(0);
        due.thrown("undo", Due.STATE, () -> x.undo());
        x.run(1);
        x.run(1);
        due.is("undo of what comes behind", 1, x.undo());
        due.is("undo of that", 0, x.undo());
        due.is("the year", 0, x.about(0));
        due.thrown("undo of no more", Due.STATE, () -> x.undo());
    }

    private static void slotKeepsTheState() {
        due.says("The save slot keeps it.");
        PlotLeases x = new PlotLeases();
        x.let(1, 4);
        x.save(1);
        x.restore(1);
        x.bury(4);
        x.claim(4, 9);
        x.dig(0, 3);
        x.set(0, 40);
        x.run(5);
        due.is("restore again", 0, x.restore(1));
        due.registerIs(x, 4, "p4 f1 0/2 29");
        due.is("the setting", 30, x.setting(0));
        due.is("paid", 60, x.about(8));
        x.run(1);
        due.is("restore a third time", 0, x.restore(1));
    }

    /** Restored, all methods answer as when it was saved; but nothing is remembered. */
    private static void wholeState() {
        due.says("Replaces the state by the one in a save slot");
        for (int slot = 0; slot < 2; slot++) {
            due.same("the readings", Twin.readings(Grounds.rich()), Twin.readings(savedAndRestored(slot)));
            due.same("the lines", Twin.lines(Grounds.rich()), Twin.lines(savedAndRestored(slot)));
        }
        due.says("the state, which consists of everything but the text and the save slots");
        PlotLeases x = savedAndRestored(0);
        due.is("the text is as it was left", -1, x.errorPosition());
        x.save(0);
        x.append(';');
        x.restore(0);
        due.is("restore changes no text", 12, x.clearText());
        due.is("restore changes no other slot", 0, x.restore(1));
    }

    private static PlotLeases savedAndRestored(int slot) {
        PlotLeases x = Grounds.rich();
        x.save(slot);
        x.ask(0);
        x.claim(8, 9);
        x.settle(3, true);
        x.renew(4, 9);
        x.dig(2, 3);
        for (int what = 0; what < 5; what++) {
            x.set(what, 9);
        }
        x.run(60);
        x.clear(0);
        x.restore(slot);
        return x;
    }

    private static void burialsAndWaiters() {
        due.says("Replaces the state by the one in a save slot");
        PlotLeases x = new PlotLeases();
        for (int p = 0; p < 24; p++) {
            x.let(0, p);
            x.bury(p);
        }
        for (int i = 0; i < 12; i++) {
            x.ask(i < 9 ? 9 - i : 5 - i % 3);
        }
        x.save(0);
        x.run(30);
        for (int p = 0; p < 24; p++) {
            x.clear(p);
        }
        x.run(1);
        for (int p = 0; p < 24; p++) {
            if (x.plot(p, 5) == 0) {
                x.let(9, p);
            }
            x.bury(p);
        }
        for (int i = 0; i < 12; i++) {
            x.ask(0);
        }
        x.restore(0);
        for (int p = 0; p < 24; p++) {
            due.is("burial(" + p + ", 0) is that of the slot", 0, x.burial(p, 0));
            due.is("burial(" + p + ", 1) is that of the slot", -1, x.burial(p, 1));
        }
        for (int i = 0; i < 13; i++) {
            due.is("waiting(" + i + ") is that of the slot", i < 9 ? 9 - i : i < 12 ? 5 - i % 3 : -1, x.waiting(i));
        }
    }
}
