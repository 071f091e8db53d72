import java.util.NoSuchElementException;
import java.util.function.Function;
import java.util.function.Supplier;

/** The edges in "Terms, Reasons", "Terms, Exceptions" and promise 25. */
public final class ReasonEdgesTest {
    public static void main(String[] args) {
        eachReason();
        reasonStays();
        latestReason();
        otherExceptionsAreNoRefusals();
        neitherUndoneNorSaved();
        Check.end("ReasonEdgesTest");
    }

    /** The house and the bag are full; 0 is on stone 1, 1 is stopped on it, and 3 is out, but still on the bank. */
    private static FordToll allReasons() {
        FordToll ford = Scenes.with(0, 4, 0, 9, 3, 3, 3, 3);
        Check.setHeights(ford, 4, 7);
        ford.setOut(0);
        ford.setOut(1);
        ford.pass(2);
        ford.stop(1);
        ford.setOut(3);
        ford.letters(50);
        ford.letters(49);
        return ford;
    }

    private static void eachReason() {
        Check.is("Terms, Reasons: where they are", Scenes.places(allReasons()), "1 1 -1 -1 -1 -1 -1 -1");
        Check.is("Terms, Boots: who is too wet", Scenes.wets(tooWet()), "11 14 14");
        Supplier<FordToll> made = ReasonEdgesTest::allReasons;
        Check.refusedAndKeeps("Terms, Reasons: 1", made, 1, 8, ford -> ford.traveller(0));
        Check.refusedAndKeeps("Terms, Reasons: 2, of setOut on a stone", made, 2, 1, ford -> ford.setOut(0));
        Check.refusedAndKeeps("Terms, Reasons: 2, of setOut on the bank", made, 2, -1, ford -> ford.setOut(3));
        Check.refusedAndKeeps("Terms, Reasons: 2, of leave on a stone", made, 2, 1, ford -> ford.leave(1));
        Check.refusedAndKeeps("Terms, Reasons: 2, of leave on the bank", made, 2, -1, ford -> ford.leave(3));
        Check.refusedAndKeeps("Terms, Reasons: 3, of stop", made, 3, -1, ford -> ford.stop(4));
        Check.refusedAndKeeps("Terms, Reasons: 3, of go", made, 3, -1, ford -> ford.go(7));
        Check.refusedAndKeeps("Terms, Reasons: 5", made, 5, 99, ford -> ford.letters(1));
        Check.refusedAndKeeps("Terms, Reasons: 6", made, 6, 0, ford -> ford.height(1, 10));
        Check.refusedAndKeeps("Terms, Reasons: 7, of stop", made, 7, 1, ford -> ford.stop(1));
        Check.refusedAndKeeps("Terms, Reasons: 7, of go", made, 7, 0, ford -> ford.go(0));
        Check.refusedAndKeeps("Terms, Reasons: 7, of go on the bank", made, 7, 3, ford -> ford.go(3));
        Check.refusedAndKeeps("Terms, Reasons: 4", ReasonEdgesTest::tooWet, 4, 14, ford -> ford.setOut(2));
    }

    /** All go back with 17 wet, of which the stove dries 0 and 1 in that hour, and 2 and 0 in the next. */
    private static FordToll tooWet() {
        FordToll ford = Scenes.with(0, 0, 0);
        Check.setHeights(ford, 5, 3);
        Scenes.setAllOut(ford);
        ford.pass(6);
        ford.rain(4);
        ford.pass(2);
        return ford;
    }

    private static void reasonStays() {
        FordToll ford = allReasons();
        Check.refused("25: the first refusal", ford, 7, 1, () -> ford.stop(1));
        Check.is("25: the reason, asked again", ford.refusal(false), 7);
        Check.is("25: the detail, asked again", ford.refusal(true), 1);
        ford.go(1);
        ford.stop(0);
        ford.pass(3);
        ford.rain(2);
        Check.ask(ford, "near");
        ford.describe();
        Check.is("25: stays after good calls", Check.told(ford), "7 1");
        ford.leave(4);
        Check.is("25: stays when travellers leave", Check.told(ford), "7 1");
    }

    private static void latestReason() {
        FordToll ford = allReasons();
        Check.refused("25: 5", ford, 5, 99, () -> ford.letters(50));
        Check.refused("25: 1 after 5", ford, 1, 8, () -> ford.traveller(20));
        Check.refused("25: 3 after 1", ford, 3, -1, () -> ford.go(2));
        Check.refused("25: 6 after 3", ford, 6, 0, () -> ford.height(1, 1));
        Check.refused("25: 7 after 6", ford, 7, 0, () -> ford.go(0));
        Check.refused("25: 2 after 7", ford, 2, 1, () -> ford.leave(0));
        FordToll wet = tooWet();
        Check.refused("25: 3", wet, 3, -1, () -> wet.stop(0));
        Check.refused("25: 4 after 3", wet, 4, 14, () -> wet.setOut(1));
    }

    private static FordToll refusedBefore() {
        FordToll ford = allReasons();
        Check.refused("25: before", ford, 2, 1, () -> ford.leave(0));
        return ford;
    }

    private static void fails(Class<? extends RuntimeException> due, String what, Function<FordToll, Object> call) {
        Check.failsAndKeeps("Terms, Exceptions: " + what, ReasonEdgesTest::refusedBefore, due, call);
    }

    private static void otherExceptionsAreNoRefusals() {
        fails(IndexOutOfBoundsException.class, "height, no stone, and no height", ford -> ford.height(-1, 0));
        fails(IllegalArgumentException.class, "height, no height, and a traveller there", ford -> ford.height(1, 31));
        fails(IllegalArgumentException.class, "rain", ford -> ford.rain(10));
        fails(IllegalArgumentException.class, "letters, no number, and a full bag", ford -> ford.letters(51));
        fails(IndexOutOfBoundsException.class, "stoneOf, no stone, and no what", ford -> ford.stoneOf(10, 3));
        fails(IllegalArgumentException.class, "stoneOf, no what", ford -> ford.stoneOf(1, 3));
        fails(IllegalArgumentException.class, "flood", ford -> ford.flood(61));
        fails(IllegalArgumentException.class, "floodAgain", ford -> ford.floodAgain(61));
        fails(IllegalArgumentException.class, "traveller, no load, and a full house", ford -> ford.traveller(21));
        fails(IndexOutOfBoundsException.class, "travellerOf, no traveller, and no what", ford -> ford.travellerOf(8, 9));
        fails(IllegalArgumentException.class, "travellerOf, no what", ford -> ford.travellerOf(7, 9));
        fails(IndexOutOfBoundsException.class, "fee", ford -> ford.fee(8));
        fails(IndexOutOfBoundsException.class, "setOut", ford -> ford.setOut(8));
        fails(IndexOutOfBoundsException.class, "stop", ford -> ford.stop(8));
        fails(IndexOutOfBoundsException.class, "go", ford -> ford.go(8));
        fails(IndexOutOfBoundsException.class, "leave", ford -> ford.leave(8));
        fails(IllegalArgumentException.class, "pass", ford -> ford.pass(25));
        fails(IndexOutOfBoundsException.class, "crossedIn, no traveller", ford -> ford.crossedIn(8));
        fails(NoSuchElementException.class, "crossedIn, not set out", ford -> ford.crossedIn(7));
        fails(NoSuchElementException.class, "crossedIn, stopped", ford -> ford.crossedIn(1));
        fails(IllegalArgumentException.class, "wetSteps, no kind", ford -> ford.wetSteps(3));
        fails(NoSuchElementException.class, "wetSteps, could not cross", ford -> ford.wetSteps(2));
        fails(NoSuchElementException.class, "answer", ford -> ford.answer(0));
        fails(NoSuchElementException.class, "errorPosition", FordToll::errorPosition);
        fails(NoSuchElementException.class, "written", ford -> ford.written(0));
        fails(IllegalArgumentException.class, "account", ford -> ford.account(19));
        fails(ArithmeticException.class, "crossingShare", FordToll::crossingShare);
        fails(IllegalStateException.class, "restore", FordToll::restore);
    }

    private static void neitherUndoneNorSaved() {
        FordToll ford = allReasons();
        Check.refused("25: before", ford, 5, 99, () -> ford.letters(1));
        ford.save();
        Check.refused("25: after the snapshot", ford, 6, 0, () -> ford.height(1, 10));
        ford.undo();
        Check.is("Terms, Exceptions: the reason is not undone", Check.told(ford), "6 0");
        ford.restore();
        Check.is("Terms, Exceptions: the reason is not saved", Check.told(ford), "6 0");
    }
}
