/** Promises 32 to 34: undo and the snapshot. */
public final class UndoTest {
    public static void main(String[] args) {
        eachChange();
        eightChanges();
        noChanges();
        whatIsNotUndone();
        snapshot();
        Check.end("UndoTest");
    }

    private static FordToll busy() {
        FordToll ford = new FordToll();
        ford.traveller(0);
        ford.traveller(5);
        ford.traveller(11);
        ford.letters(20);
        ford.height(3, 12);
        ford.setOut(0);
        ford.setOut(1);
        ford.rain(3);
        ford.pass(3);
        return ford;
    }

    private static void change(FordToll ford, int which) {
        switch (which) {
            case 0: ford.height(5, 8); break;
            case 1: ford.rain(7); break;
            case 2: ford.letters(3); break;
            case 3: ford.traveller(20); break;
            case 4: ford.leave(2); break;
            case 5: ford.setOut(2); break;
            case 6: ford.stop(0); break;
            case 7: ford.stop(1); ford.go(1); break;
            default: ford.pass(24); break;
        }
    }

    private static void eachChange() {
        for (int which = 0; which <= 8; which++) {
            FordToll ford = busy();
            String before = Check.state(ford);
            change(ford, which);
            Check.is("32: it changes " + which, which == 7 || !before.equals(Check.state(ford)), true);
            Check.is("32: undo " + which, ford.undo(), 7);
            if (which == 7) {
                Check.is("32: undo stop", ford.undo(), 6);
            }
            Check.is("32: as before " + which, Check.state(ford), before);
        }
    }

    private static void eightChanges() {
        FordToll ford = new FordToll();
        Check.fails("32: none", IllegalStateException.class, ford::undo);
        for (int rain = 1; rain <= 9; rain++) {
            ford.rain(rain);
            Check.is("32: can be undone", ford.account(18), Math.min(rain, 8));
        }
        for (int left = 7; left >= 0; left--) {
            Check.is("32: left", ford.undo(), left);
            Check.is("32: rain", ford.account(2), left + 1);
            Check.is("32: account", ford.account(18), left);
        }
        Check.fails("32: no more", IllegalStateException.class, ford::undo);
        ford.rain(5);
        ford.pass(1);
        Check.is("32: again", ford.undo(), 1);
        Check.is("32: the hour is back", ford.account(0), 0);
        Check.is("32: the rain is not", ford.account(2), 5);
    }

    private static void noChanges() {
        FordToll ford = busy();
        ford.undo();
        int kept = ford.account(18);
        String before = Check.state(ford);
        Check.fails("32: refused", UnsupportedOperationException.class, () -> ford.setOut(0));
        Check.fails("32: wrong", IllegalArgumentException.class, () -> ford.letters(0));
        Check.ask(ford, "far");
        ford.describe();
        ford.save();
        ford.flood(3);
        Check.is("32: no changes", ford.account(18), kept);
        Check.is("32: nothing changed", Check.state(ford), before);
    }

    private static void whatIsNotUndone() {
        FordToll ford = busy();
        Check.ask(ford, "walker");
        Check.typeAll(ford, "far");
        ford.save();
        ford.undo();
        Check.is("32: the answer", Check.answered(ford), "0");
        Check.is("32: the buffer", ford.account(17), 3);
        ford.restore();
        Check.is("34: the answer", Check.answered(ford), "0");
        Check.is("34: the buffer", ford.account(17), 3);
        Check.is("22: the buffer is read", ford.ask(), 0);
    }

    private static void snapshot() {
        String saved = Check.state(busy());
        for (int which = 0; which <= 8; which++) {
            FordToll ford = busy();
            Check.fails("34: none", IllegalStateException.class, ford::restore);
            Check.is("33: hour", ford.save(), 3);
            change(ford, which == 4 ? 8 : which == 5 ? 1 : which);
            Check.is("34: hour", ford.restore(), 3);
            Check.is("34: as saved", Check.state(ford), saved);
            Check.is("34: no change", ford.account(18), 0);
            Check.fails("34: no undo", IllegalStateException.class, ford::undo);
        }
        snapshotInPlace();
    }

    private static void snapshotInPlace() {
        FordToll ford = busy();
        ford.save();
        ford.pass(5);
        Check.is("33: in place of the earlier one", ford.save(), 8);
        ford.undo();
        Check.is("32: undo leaves the snapshot", ford.restore(), 8);
        FordToll atFirst = new FordToll();
        Check.is("33: of a new object", atFirst.save(), 0);
        String empty = Check.state(atFirst);
        atFirst.traveller(3);
        atFirst.pass(2);
        Check.is("34: of a new object", atFirst.restore(), 0);
        Check.is("34: empty again", Check.state(atFirst), empty);
    }
}
