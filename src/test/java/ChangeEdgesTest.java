import java.util.ArrayList;
import java.util.List;
import java.util.function.Consumer;

/** The edges in "Terms, Changes", "Terms, Exceptions" of what is kept, and the promises 32 to 34. */
public final class ChangeEdgesTest {
    private static final List<String> NAMES = new ArrayList<>();
    private static final List<Consumer<FordToll>> CHANGES = new ArrayList<>();
    private static final List<Consumer<FordToll>> LOOKS = new ArrayList<>();

    public static void main(String[] args) {
        fillChanges();
        fillLooks();
        eachChangeIsUndone();
        aDayIsUndone();
        eachHeightIsUndone();
        looksAreNoChanges();
        failuresAreNoChanges();
        nothingToUndo();
        eightOfNine();
        eachNumberOfChanges();
        undoAndChangeAgain();
        roundAndRound();
        as512Calls();
        whatIsNotUndone();
        noSnapshot();
        eachChangeIsRestored();
        snapshotStays();
        snapshotInPlace();
        noUndoAfterRestore();
        snapshotOfTheFullHouse();
        whatIsNotSaved();
        Check.end("ChangeEdgesTest");
    }

    private static void change(String name, Consumer<FordToll> call) {
        NAMES.add(name);
        CHANGES.add(call);
    }

    private static void fillChanges() {
        change("height of the first stone", ford -> ford.height(0, 30));
        change("height of the last stone", ford -> ford.height(9, 30));
        change("height, the same", ford -> ford.height(9, 10));
        change("rain", ford -> ford.rain(9));
        change("rain, the same", ford -> ford.rain(3));
        change("letters", ford -> ford.letters(50));
        change("traveller", ford -> ford.traveller(20));
        change("leave, the first", ford -> ford.leave(0));
        change("leave, the last", ford -> ford.leave(5));
        change("setOut", ford -> ford.setOut(4));
        change("stop", ford -> ford.stop(1));
        change("go", ford -> ford.go(2));
        change("pass, an hour", ford -> ford.pass(1));
        change("pass, a day", ford -> ford.pass(24));
    }

    private static void fillLooks() {
        LOOKS.add(ford -> ford.stoneOf(0, 0));
        LOOKS.add(FordToll::under);
        LOOKS.add(ford -> ford.flood(60));
        LOOKS.add(ford -> ford.floodAgain(60));
        LOOKS.add(FordToll::clearIn);
        LOOKS.add(ford -> ford.travellerOf(0, 0));
        LOOKS.add(ford -> ford.fee(0));
        LOOKS.add(ford -> ford.crossedIn(1));
        LOOKS.add(ford -> ford.wetSteps(0));
        LOOKS.add(FordToll::kinds);
        LOOKS.add(ford -> ford.type('x'));
        LOOKS.add(ford -> Check.ask(ford, "near"));
        LOOKS.add(FordToll::describe);
        LOOKS.add(ford -> ford.account(0));
        LOOKS.add(FordToll::lettersAgain);
        LOOKS.add(FordToll::meanWet);
        LOOKS.add(FordToll::save);
    }

    /** 0 and 4 crossed, 1 is near the far bank with letters, 2 is stopped, 3 went back and is wet, 5 never set out; it rises. */
    private static FordToll busy() {
        FordToll ford = Scenes.with(4, 1, 5, 0, 2, 12);
        ford.letters(30);
        ford.setOut(0);
        ford.setOut(4);
        ford.pass(11);
        ford.setOut(1);
        ford.setOut(2);
        ford.pass(3);
        ford.stop(2);
        ford.height(0, 5);
        ford.setOut(3);
        ford.pass(1);
        ford.stop(3);
        ford.pass(3);
        ford.rain(4);
        ford.pass(1);
        ford.rain(3);
        ford.pass(1);
        return ford;
    }

    private static void eachChangeIsUndone() {
        Check.is("Terms, Changes: where they are", Scenes.places(busy()), "10 8 2 -1 10 -1");
        Check.is("Terms, Changes: one is wet", Scenes.wets(busy()), "0 0 0 7 0 0");
        Check.is("Terms, Changes: one has letters", Scenes.numbers(busy(), 8), "0 9 0 0 0 0");
        Check.is("Terms, Changes: letters came over", busy().account(10), 6);
        Check.is("Terms, Changes: two crossed", busy().account(13), 2);
        Check.is("Terms, Changes: one went back", busy().account(14), 1);
        for (int index = 0; index < CHANGES.size(); index++) {
            FordToll ford = busy();
            CHANGES.get(index).accept(ford);
            Check.is("Terms, Changes: it is one, " + NAMES.get(index), ford.account(18), 8);
            Check.is("32: how many are left after " + NAMES.get(index), ford.undo(), 7);
            Check.is("32: undone, " + NAMES.get(index), Check.state(ford), Check.state(busy()));
            FordToll fresh = freshlyCounted(index);
            Check.is("Terms, Changes: counted, " + NAMES.get(index), fresh.account(18), 1);
            Check.is("32: none is left after " + NAMES.get(index), fresh.undo(), 0);
            FordToll restored = busy();
            restored.save();
            restored.restore();
            Check.is("32: all is undone, " + NAMES.get(index), Check.all(fresh), Check.all(restored));
        }
    }

    /** The snapshot, restored, leaves no change but the one that follows. */
    private static FordToll freshlyCounted(int index) {
        FordToll ford = busy();
        ford.save();
        ford.restore();
        CHANGES.get(index).accept(ford);
        return ford;
    }

    /** An hour changes nearly all; what a day changes is undone to the last number. */
    private static void aDayIsUndone() {
        FordToll ford = busy();
        String before = Check.state(ford);
        Check.is("17: one crosses", ford.pass(24), 1);
        Check.is("28: 10, letters came over", ford.account(10), 15);
        Check.is("28: 14, one more went back", ford.account(14), 2);
        Check.is("28: 1, the flood", ford.account(1), 31);
        Check.is("32: left", ford.undo(), 7);
        Check.is("32: a day is undone", Check.state(ford), before);
        FordToll saved = busy();
        saved.pass(24);
        String after = Check.state(saved);
        saved.save();
        saved.undo();
        Check.is("32: undone after the snapshot", Check.state(saved), before);
        saved.restore();
        Check.is("34: a day is restored", Check.state(saved), after);
    }

    private static void eachHeightIsUndone() {
        FordToll ford = new FordToll();
        for (int stone = 0; stone < 10; stone++) {
            ford.height(stone, 20 + stone);
            ford.undo();
            Check.is("32: the height of " + stone, ford.stoneOf(stone, 0), 10);
            ford.save();
            ford.height(stone, 1);
            ford.restore();
            Check.is("34: the height of " + stone, ford.stoneOf(stone, 0), 10);
        }
    }

    private static void looksAreNoChanges() {
        for (int index = 0; index < LOOKS.size(); index++) {
            FordToll ford = busy();
            for (int undone = 0; undone < 3; undone++) {
                ford.undo();
            }
            ford.rain(0);
            String before = Check.state(ford);
            LOOKS.get(index).accept(ford);
            Check.is("Terms, Changes: no change, the look " + index, ford.account(18), 6);
            Check.is("Terms, Changes: nothing changes, the look " + index, Check.state(ford), before);
        }
    }

    private static void failuresAreNoChanges() {
        FordToll ford = busy();
        ford.undo();
        Check.refused("25: 6", ford, 6, 2, () -> ford.height(2, 10));
        Check.fails("3: rain 10", IllegalArgumentException.class, () -> ford.rain(10));
        Check.fails("4: letters 0", IllegalArgumentException.class, () -> ford.letters(0));
        Check.fails("10: load 21", IllegalArgumentException.class, () -> ford.traveller(21));
        Check.refused("25: 2, of leave", ford, 2, 7, () -> ford.leave(1));
        Check.refused("25: 2, of setOut", ford, 2, 7, () -> ford.setOut(1));
        Check.refused("25: 7, of stop", ford, 7, 2, () -> ford.stop(2));
        Check.refused("25: 7, of go", ford, 7, 1, () -> ford.go(1));
        Check.fails("17: hours 25", IllegalArgumentException.class, () -> ford.pass(25));
        Check.is("Terms, Changes: those that fail are none", ford.account(18), 7);
    }

    private static void nothingToUndo() {
        Check.failsAndKeeps("32: a new object", FordToll::new, IllegalStateException.class, FordToll::undo);
        FordToll ford = new FordToll();
        ford.traveller(0);
        Check.is("32: one", ford.undo(), 0);
        Check.is("32: as a new object", Check.all(ford), Check.all(new FordToll()));
        Check.fails("32: none is left", IllegalStateException.class, ford::undo);
        Check.is("28: 18, none", ford.account(18), 0);
        Check.is("10: the number 0 again", ford.traveller(5), 0);
    }

    private static void eightOfNine() {
        FordToll ford = new FordToll();
        for (int load = 0; load < 8; load++) {
            ford.traveller(load);
        }
        ford.rain(9);
        Check.is("28: 18, eight of nine", ford.account(18), 8);
        Check.is("32: the ninth", ford.undo(), 7);
        Check.is("3: no rain", ford.account(2), 0);
        for (int left = 6; left >= 0; left--) {
            Check.is("32: left", ford.undo(), left);
            Check.is("32: travellers", ford.account(3), left + 1);
        }
        Check.fails("32: the first of nine cannot be undone", IllegalStateException.class, ford::undo);
        Check.is("32: it stays", ford.account(3), 1);
    }

    private static void eachNumberOfChanges() {
        for (int changes = 1; changes <= 20; changes++) {
            FordToll ford = new FordToll();
            for (int change = 1; change <= changes; change++) {
                ford.pass(1);
            }
            int left = Math.min(8, changes);
            while (left > 0) {
                left--;
                Check.is("32: left of " + changes, ford.undo(), left);
            }
            Check.is("32: the hour of " + changes, ford.account(0), Math.max(0, changes - 8));
            Check.fails("32: no more of " + changes, IllegalStateException.class, ford::undo);
        }
    }

    private static void undoAndChangeAgain() {
        FordToll ford = new FordToll();
        for (int stone = 0; stone < 9; stone++) {
            ford.height(stone, 20);
        }
        ford.undo();
        ford.undo();
        ford.height(9, 30);
        Check.is("28: 18, eight less two and one", ford.account(18), 7);
        Check.is("32: the new one", ford.undo(), 6);
        Check.is("2: undone", ford.stoneOf(9, 0), 10);
        Check.is("2: undone before", ford.stoneOf(7, 0), 10);
        Check.is("2: not undone", ford.stoneOf(6, 0), 20);
        Check.is("32: undo is no change", ford.undo(), 5);
        Check.is("2: undone as well", ford.stoneOf(6, 0), 10);
    }

    private static void roundAndRound() {
        FordToll ford = new FordToll();
        for (int turn = 1; turn <= 30; turn++) {
            ford.letters(1);
            ford.letters(2);
            Check.is("32: one back", ford.undo(), Math.min(7, turn));
            Check.is("32: the bag", ford.account(8), turn);
        }
        for (int left = 6; left >= 0; left--) {
            Check.is("32: left", ford.undo(), left);
            Check.is("32: the bag, one by one", ford.account(8), 23 + left);
        }
        Check.fails("32: none left", IllegalStateException.class, ford::undo);
    }

    private static String notUndone(FordToll ford) {
        StringBuilder text = new StringBuilder(Check.answered(ford));
        text.append(" | ").append(ford.errorPosition()).append(" | ").append(ford.account(17));
        return text.append(" | ").append(Check.told(ford)).append(" | ").append(Check.lineBefore(ford)).toString();
    }

    private static void malformed(FordToll ford, String question) {
        Check.fails("22: malformed, " + question, IllegalArgumentException.class, () -> Check.ask(ford, question));
    }

    /** Two changes, and all that is not undone between them. */
    private static FordToll asked() {
        FordToll ford = Scenes.with(0, 4, 9);
        ford.setOut(1);
        Check.ask(ford, "-out");
        malformed(ford, "outer");
        Check.refused("25: 2", ford, 2, -1, () -> ford.leave(1));
        ford.describe();
        ford.pass(3);
        return ford;
    }

    private static void as512Calls() {
        FordToll ford = new FordToll();
        for (int call = 1; call <= 511; call++) {
            ford.pass(24);
        }
        Check.is("What it is: the 512th call, the hour", ford.account(0), 511 * 24);
        FordToll undone = new FordToll();
        for (int call = 1; call <= 510; call++) {
            undone.letters(1);
            undone.undo();
            call++;
        }
        Check.is("What it is: the 511th call", undone.letters(50), 50);
        Check.is("What it is: the 512th call, the bag", undone.account(8), 50);
    }

    private static void whatIsNotUndone() {
        FordToll ford = asked();
        Check.ask(ford, "out");
        malformed(ford, "far//");
        Check.refused("25: 7", ford, 7, 1, () -> ford.go(1));
        ford.describe();
        Check.typeAll(ford, "wet");
        String due = "1 | 4 | 3 | 7 1 | ..1....... 4|";
        Check.is("Terms, Exceptions: before", notUndone(ford), due);
        for (int left = 4; left >= 0; left--) {
            Check.is("32: left", ford.undo(), left);
            Check.is("Terms, Exceptions: not undone", notUndone(ford), due);
        }
        Check.is("28: 3, none", ford.account(3), 0);
        Check.is("23: the answer stays, though the travellers are undone", ford.answer(0), 1);
        Check.typeAll(ford, "=0");
        Check.is("22: the buffer goes on", ford.ask(), 0);
    }

    private static void noSnapshot() {
        Check.failsAndKeeps("34: a new object", FordToll::new, IllegalStateException.class, FordToll::restore);
        Check.failsAndKeeps("34: after changes", ChangeEdgesTest::busy, IllegalStateException.class, FordToll::restore);
        FordToll ford = busy();
        Check.fails("34: none", IllegalStateException.class, ford::restore);
        Check.is("28: 18, the changes stay", ford.account(18), 8);
    }

    private static void eachChangeIsRestored() {
        for (int index = 0; index < CHANGES.size(); index++) {
            FordToll ford = busy();
            Check.is("33: the hour", ford.save(), 20);
            Check.is("33: no change", ford.account(18), 8);
            CHANGES.get(index).accept(ford);
            Check.is("34: the hour, after " + NAMES.get(index), ford.restore(), 20);
            Check.is("34: restored, after " + NAMES.get(index), Check.state(ford), Check.state(busy()));
            Check.is("34: no change can be undone, after " + NAMES.get(index), ford.account(18), 0);
        }
    }

    private static void snapshotStays() {
        FordToll ford = busy();
        ford.save();
        for (int turn = 0; turn < 2; turn++) {
            ford.traveller(20);
            ford.pass(24);
            Check.is("34: restored again", ford.restore(), 20);
            Check.is("34: all of it again", ford.account(3), 6);
        }
        Check.is("34: restored without a change", ford.restore(), 20);
        Check.is("34: all of it", Check.state(ford), Check.state(busy()));
        FordToll undone = busy();
        undone.pass(1);
        undone.save();
        undone.undo();
        undone.undo();
        Check.is("33: an undo leaves the snapshot", undone.restore(), 21);
    }

    private static void snapshotInPlace() {
        FordToll ford = new FordToll();
        Check.is("33: the hour 0", ford.save(), 0);
        ford.pass(5);
        Check.is("33: the hour 5", ford.save(), 5);
        ford.pass(3);
        Check.is("34: the later one", ford.restore(), 5);
        Check.is("28: 0", ford.account(0), 5);
        ford.pass(1);
        ford.undo();
        Check.is("33: after an undo", ford.save(), 5);
        ford.pass(2);
        Check.is("33: the hour 7", ford.save(), 7);
        Check.is("34: the hour 7", ford.restore(), 7);
    }

    private static void noUndoAfterRestore() {
        FordToll ford = busy();
        ford.save();
        ford.restore();
        Check.is("34: no change can be undone", ford.account(18), 0);
        Check.fails("34: no undo", IllegalStateException.class, ford::undo);
        Check.is("34: all as before", Check.state(ford), Check.state(busy()));
        ford.rain(9);
        Check.is("28: 18, one again", ford.account(18), 1);
        Check.is("32: undone", ford.undo(), 0);
        Check.is("32: not beyond the snapshot", Check.state(ford), Check.state(busy()));
    }

    private static void snapshotOfTheFullHouse() {
        FordToll ford = Scenes.fullHouse();
        Scenes.setAllOut(ford);
        ford.pass(5);
        String saved = Check.state(ford);
        ford.save();
        ford.pass(6);
        for (int left = 8; left > 0; left--) {
            ford.leave(0);
        }
        Check.is("28: 3, none", ford.account(3), 0);
        ford.restore();
        Check.is("34: the full house", Check.state(ford), saved);
        FordToll empty = new FordToll();
        empty.save();
        empty.traveller(3);
        empty.traveller(20);
        empty.restore();
        Check.is("34: nobody", Check.all(empty), Check.all(new FordToll()));
        Check.is("10: the number 0", empty.traveller(4), 0);
        Check.is("11: 0, of the new one", empty.travellerOf(0, 0), 1);
    }

    private static void whatIsNotSaved() {
        FordToll ford = asked();
        ford.save();
        Check.ask(ford, "out/far");
        malformed(ford, "");
        Check.refused("25: 3", ford, 3, -1, () -> ford.go(0));
        ford.pass(1);
        ford.describe();
        Check.typeAll(ford, "load");
        String due = "1 | 0 | 4 | 3 -1 | ...1...... 4|";
        Check.is("Terms, Exceptions: before", notUndone(ford), due);
        Check.is("34: the hour", ford.restore(), 3);
        Check.is("Terms, Exceptions: not saved", notUndone(ford), due);
        Check.is("34: the stone", Scenes.place(ford, 1), 2);
    }
}
