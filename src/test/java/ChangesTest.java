import java.util.function.Supplier;
import java.util.function.ToIntFunction;

/** The edges that 'Changes and errors' in the terms names: a test for each sentence, which stands above it. */
public final class ChangesTest extends Checks {
    public static void main(String[] args) {
        runAll(ChangesTest.class);
    }

    /** Group 0 holds the dirty page 0, group 1 the written out page 1; there is a checkpoint, and a text. */
    private static SealedGroups lively() {
        SealedGroups x = after("c;b0;w0,0,1;b1;w1,1,1;");
        x.writeOut(1);
        x.writeOut(0);
        x.write(0, 0, 2);
        typeAll(x, "c;s2;");
        return x;
    }

    private static SealedGroups livelyAndStopped() {
        SealedGroups x = lively();
        due(x.stop(0), 1);
        return x;
    }

    /** As lively, with 60 records. */
    private static SealedGroups full() {
        return filled(lively(), 60);
    }

    private static SealedGroups fullAndStopped() {
        SealedGroups x = full();
        due(x.stop(0), 0);
        return x;
    }

    /** The call is one change: one undo brings all back that can be seen. */
    private static void changes(Supplier<SealedGroups> made, ToIntFunction<SealedGroups> call) {
        SealedGroups before = made.get();
        SealedGroups x = made.get();
        due("is no error", call.applyAsInt(x) >= 0, true);
        before.type('?');
        x.type('?');
        int states = before.count(11);
        due(x.count(11), Math.min(4, states + 1));
        due(x.undo(), Math.min(3, states));
        String undone = seen(x).replaceFirst(" count 11=\\d+", "");
        due("all that can be seen", undone, seen(before).replaceFirst(" count 11=\\d+", ""));
    }

    // "The changes are the calls of begin, write, settle, takeBack, writeOut, dropOut, checkpoint, dropRecords, force,
    // stop, restart and play that return no error."
    static void eachOfTheTwelveCallsIsAChange() {
        changes(ChangesTest::lively, x -> x.begin(2));
        changes(ChangesTest::lively, x -> x.write(0, 7, 9));
        changes(ChangesTest::lively, x -> x.settle(0));
        changes(ChangesTest::lively, x -> x.takeBack(0));
        changes(ChangesTest::lively, x -> x.writeOut(0));
        changes(ChangesTest::lively, x -> x.dropOut(1));
        changes(ChangesTest::lively, SealedGroups::checkpoint);
        changes(() -> filled(lively(), 12), SealedGroups::dropRecords);
        changes(ChangesTest::lively, SealedGroups::force);
        changes(ChangesTest::lively, x -> x.stop(0));
        changes(ChangesTest::lively, x -> x.stop(1));
        changes(ChangesTest::livelyAndStopped, SealedGroups::restart);
        changes(() -> {
            SealedGroups x = after("b0;w0,0,5;");
            typeAll(x, "o0;s0;c;x;r;");
            return x;
        }, SealedGroups::play);
        changes(SealedGroups::new, SealedGroups::play);
    }

    // "The changes are the calls of begin, write, settle, takeBack, writeOut, dropOut, checkpoint, dropRecords, force,
    // stop, restart and play that return no error."
    static void aCallThatDoesNothingWithoutAnErrorIsAChangeToo() {
        SealedGroups x = new SealedGroups();
        due(x.force(), 0);
        due(x.count(11), 1);
        due(x.stop(0), 0);
        due(x.count(11), 2);
        due(x.restart(), 0);
        due(x.count(11), 3);
        x.checkpoint();
        due(x.undo(), 3);
        x.checkpoint();
        due(x.dropRecords(), 0);
        due(x.undo(), 3);
        due(x.undo(), 2);
        due(x.play(), 0);
        due(x.count(11), 3);
    }

    // "The changes are the calls of begin, write, settle, ..."
    static void lookingTypingAndUndoingAreNoChanges() {
        SealedGroups x = after("c;");
        x.type('c');
        x.clearText();
        x.type('c');
        seen(x);
        due(x.count(11), 1);
        due(x.undo(), 0);
        due(x.count(11), 0);
        due(x.count(12), 1);
    }

    // "A history of at most 4 states is kept"
    static void fourStatesAreKept() {
        SealedGroups x = new SealedGroups();
        for (int i = 1; i <= 4; i++) {
            x.checkpoint();
            due(x.count(11), i);
        }
        for (int i = 3; i >= 0; i--) {
            due(x.undo(), i);
            due(x.count(0), i);
        }
        due(x.undo(), NOT_POSSIBLE);
        due(x.count(0), 0);
    }

    // "and if there are 5 states then, the oldest one is dropped."
    static void theFifthStateDropsTheOldest() {
        SealedGroups x = new SealedGroups();
        for (int i = 1; i <= 5; i++) {
            x.checkpoint();
        }
        due(x.count(11), 4);
        for (int i = 3; i >= 0; i--) {
            due(x.undo(), i);
            due(x.count(0), i + 1);
        }
        due(x.undo(), NOT_POSSIBLE);
        due(x.count(0), 1);
    }

    // "and if there are 5 states then, the oldest one is dropped."
    static void theLatestFourStatesAreKeptHoweverManyThereWere() {
        for (int changes = 6; changes <= 24; changes++) {
            SealedGroups x = new SealedGroups();
            for (int i = 1; i <= changes; i++) {
                x.checkpoint();
            }
            for (int i = 1; i <= 4; i++) {
                due(x.undo(), 4 - i);
                due(x.count(0), changes - i);
            }
            due(x.undo(), NOT_POSSIBLE);
        }
    }

    // "each change records everything before it but the text"
    static void changesBehindAnUndoAreRecordedOnTopOfWhatIsLeft() {
        SealedGroups x = filled(new SealedGroups(), 7);
        due(x.undo(), 3);
        due(x.undo(), 2);
        due(x.begin(0), 6);
        due(x.begin(1), 7);
        due(x.begin(2), 8);
        due(x.count(11), 4);
        due(x.undo(), 3);
        due(x.undo(), 2);
        due(x.undo(), 1);
        due(x.count(0), 5);
        due(x.count(4), 0);
        due(x.undo(), 0);
        due(x.count(0), 4);
        due(x.undo(), NOT_POSSIBLE);
    }

    // "each change records everything before it but the text"
    static void whatWasDoneAgainSoFarIsRecordedAndTheTextIsNot() {
        SealedGroups x = after("b0;w0,0,1;s0;x;");
        x.type('!');
        due(x.restart(), 1);
        due(x.count(10), 1);
        x.clearText();
        typeAll(x, "x;r;");
        due(x.undo(), 1);
        due(x.count(10), 0);
        due(x.count(7), 1);
        due(x.count(12), 4);
    }

    // "`INVALID_ARGUMENT = -1000001`"; "`NOT_POSSIBLE = -1000002`"; "`LIMIT_REACHED = -1000003`";
    // "`NOT_FOUND = -1000004`"
    static void theConstantsAreTheErrors() {
        due(SealedGroups.INVALID_ARGUMENT, -1000001);
        due(SealedGroups.NOT_POSSIBLE, -1000002);
        due(SealedGroups.LIMIT_REACHED, -1000003);
        due(SealedGroups.NOT_FOUND, -1000004);
    }

    // "INVALID_ARGUMENT is returned rather than NOT_POSSIBLE"
    static void invalidGoesBeforeNotPossible() {
        SealedGroups x = livelyAndStopped();
        due(x.begin(4), INVALID);
        due(x.write(4, 0, 0), INVALID);
        due(x.write(0, 8, 0), INVALID);
        due(x.write(0, 0, 100), INVALID);
        due(x.settle(-1), INVALID);
        due(x.takeBack(4), INVALID);
        due(x.writeOut(8), INVALID);
        due(x.dropOut(-1), INVALID);
        due(x.stop(2), INVALID);
        due(x.would(2, 0), INVALID);
        due(x.would(0, 5), INVALID);
        x.restart();
        due(x.write(2, 8, 0), INVALID);
        due(x.write(2, 0, 100), INVALID);
        due(x.write(2, 0, -1), INVALID);
    }

    // "INVALID_ARGUMENT is returned rather than NOT_POSSIBLE, NOT_POSSIBLE rather than LIMIT_REACHED"
    static void invalidGoesBeforeTheLimit() {
        SealedGroups x = full();
        due(x.begin(4), INVALID);
        due(x.begin(-1), INVALID);
        due(x.write(0, 0, 100), INVALID);
        due(x.write(0, -1, 0), INVALID);
        due(x.write(-1, 0, 0), INVALID);
        due(x.settle(4), INVALID);
        due(x.takeBack(-1), INVALID);
    }

    // "NOT_POSSIBLE rather than LIMIT_REACHED"
    static void notPossibleGoesBeforeTheLimit() {
        SealedGroups x = full();
        due(x.begin(0), NOT_POSSIBLE);
        due(x.begin(2), LIMIT);
        due(x.write(2, 5, 0), NOT_POSSIBLE);
        due(x.write(0, 1, 0), NOT_POSSIBLE);
        due(x.write(0, 0, 0), LIMIT);
        due(x.settle(2), NOT_POSSIBLE);
        due(x.settle(0), LIMIT);
        due(x.takeBack(2), NOT_POSSIBLE);
        due(x.takeBack(0), LIMIT);
        due(x.checkpoint(), LIMIT);
        x.stop(0);
        due(x.begin(2), NOT_POSSIBLE);
        due(x.write(0, 0, 0), NOT_POSSIBLE);
        due(x.settle(0), NOT_POSSIBLE);
        due(x.takeBack(0), NOT_POSSIBLE);
        due(x.checkpoint(), NOT_POSSIBLE);
    }

    // "and LIMIT_REACHED rather than NOT_FOUND", of which no call has both: so the ones before it
    static void invalidAndNotPossibleGoBeforeNotFound() {
        SealedGroups x = new SealedGroups();
        due(x.pageOf(8, 6), INVALID);
        due(x.pageOf(0, 9), INVALID);
        due(x.recordOf(0, 0), INVALID);
        due(x.recordOf(1, 9), INVALID);
        due(x.recordOf(1, -1), INVALID);
        due(x.groupOf(4, 1), INVALID);
        due(x.groupOf(0, 4), INVALID);
        due(x.would(2, 4), INVALID);
        due(x.fault(3), INVALID);
        due(x.would(0, 4), NOT_FOUND);
        x.stop(0);
        due(x.would(0, 4), NOT_POSSIBLE);
    }

    // "A call that returns an error changes nothing."
    static void anInvalidCallChangesNothing() {
        refused(ChangesTest::lively, x -> x.begin(4), INVALID);
        refused(ChangesTest::lively, x -> x.write(0, 8, 1), INVALID);
        refused(ChangesTest::lively, x -> x.write(0, 0, 100), INVALID);
        refused(ChangesTest::lively, x -> x.settle(4), INVALID);
        refused(ChangesTest::lively, x -> x.takeBack(-1), INVALID);
        refused(ChangesTest::lively, x -> x.writeOut(8), INVALID);
        refused(ChangesTest::lively, x -> x.dropOut(-1), INVALID);
        refused(ChangesTest::lively, x -> x.stop(-1), INVALID);
        refused(ChangesTest::lively, x -> x.type(127), INVALID);
        refused(ChangesTest::lively, x -> x.would(-1, 0), INVALID);
        refused(ChangesTest::lively, x -> x.fault(-1), INVALID);
    }

    // "A call that returns an error changes nothing."
    static void aCallThatIsNotPossibleChangesNothing() {
        refused(ChangesTest::lively, x -> x.begin(0), NOT_POSSIBLE);
        refused(ChangesTest::lively, x -> x.write(2, 5, 1), NOT_POSSIBLE);
        refused(ChangesTest::lively, x -> x.write(0, 1, 1), NOT_POSSIBLE);
        refused(ChangesTest::lively, x -> x.settle(2), NOT_POSSIBLE);
        refused(ChangesTest::lively, x -> x.takeBack(2), NOT_POSSIBLE);
        refused(ChangesTest::lively, x -> x.writeOut(1), NOT_POSSIBLE);
        refused(ChangesTest::lively, x -> x.dropOut(0), NOT_POSSIBLE);
        refused(ChangesTest::lively, x -> x.dropOut(7), NOT_POSSIBLE);
        refused(() -> after("b0;w0,0,1;"), SealedGroups::dropRecords, NOT_POSSIBLE);
        refused(ChangesTest::lively, SealedGroups::restart, NOT_POSSIBLE);
        refused(ChangesTest::lively, SealedGroups::play, NOT_POSSIBLE);
        refused(SealedGroups::new, SealedGroups::undo, NOT_POSSIBLE);
    }

    // "A call that returns an error changes nothing."
    static void aCallBeyondTheLimitChangesNothing() {
        refused(ChangesTest::full, x -> x.begin(2), LIMIT);
        refused(ChangesTest::full, x -> x.write(0, 5, 1), LIMIT);
        refused(ChangesTest::full, x -> x.settle(0), LIMIT);
        refused(ChangesTest::full, x -> x.takeBack(0), LIMIT);
        refused(() -> filled(lively(), 58), x -> x.takeBack(0), LIMIT);
        refused(ChangesTest::full, SealedGroups::checkpoint, LIMIT);
        refused(ChangesTest::full, SealedGroups::play, NOT_POSSIBLE);
    }

    // "A call that returns an error changes nothing."
    static void aCharacterBehindThe80thChangesNothing() {
        SealedGroups x = new SealedGroups();
        typeAll(x, "b0;" + "c;".repeat(38) + "c");
        due(x.type(';'), LIMIT);
        due(x.count(12), 80);
        due(x.fault(0), 79);
        due(x.fault(2), 1);
        due(x.count(11), 0);
    }

    // "A call that returns an error changes nothing."
    static void aCallForWhatIsNotFoundChangesNothing() {
        refused(ChangesTest::lively, x -> x.pageOf(7, 7), NOT_FOUND);
        refused(ChangesTest::lively, x -> x.recordOf(99, 0), NOT_FOUND);
        refused(ChangesTest::lively, x -> x.groupOf(2, 1), NOT_FOUND);
        refused(SealedGroups::new, x -> x.would(1, 4), NOT_FOUND);
        refused(SealedGroups::new, x -> x.fault(0), NOT_FOUND);
    }

    // "While the store is stopped, each change but restart and play is NOT_POSSIBLE, if its arguments are in their
    // ranges"
    static void whileStoppedNoOtherChangeIsPossibleNorChangesAnything() {
        refused(ChangesTest::livelyAndStopped, x -> x.begin(2), NOT_POSSIBLE);
        refused(ChangesTest::livelyAndStopped, x -> x.write(0, 0, 1), NOT_POSSIBLE);
        refused(ChangesTest::livelyAndStopped, x -> x.settle(0), NOT_POSSIBLE);
        refused(ChangesTest::livelyAndStopped, x -> x.takeBack(0), NOT_POSSIBLE);
        refused(ChangesTest::livelyAndStopped, x -> x.writeOut(0), NOT_POSSIBLE);
        refused(ChangesTest::livelyAndStopped, x -> x.dropOut(1), NOT_POSSIBLE);
        refused(ChangesTest::livelyAndStopped, SealedGroups::checkpoint, NOT_POSSIBLE);
        refused(ChangesTest::livelyAndStopped, SealedGroups::dropRecords, NOT_POSSIBLE);
        refused(ChangesTest::livelyAndStopped, SealedGroups::force, NOT_POSSIBLE);
        refused(ChangesTest::livelyAndStopped, x -> x.stop(0), NOT_POSSIBLE);
        refused(ChangesTest::livelyAndStopped, x -> x.stop(1), NOT_POSSIBLE);
        refused(ChangesTest::livelyAndStopped, SealedGroups::play, NOT_POSSIBLE);
        refused(ChangesTest::livelyAndStopped, x -> x.would(0, 0), NOT_POSSIBLE);
    }

    // "nothing is possible but to restart (and to look)"
    static void whileStoppedLookingIsPossible() {
        SealedGroups x = livelyAndStopped();
        due(x.pageOf(0, 2), 1);
        due(x.pageOf(0, 0), 1);
        due(x.recordOf(1, 0), 5);
        due(x.groupOf(0, 0), 0);
        due(x.count(9), 0);
        due(x.fault(1), 3);
        due(x.type('c'), 6);
        due(x.clearText(), 6);
        due(x.restart(), 0);
        due(x.count(7), 0);
    }

    // "While the store is stopped, each change but restart and play is NOT_POSSIBLE", and undo is none of the changes
    static void whileStoppedUndoIsPossible() {
        SealedGroups x = livelyAndStopped();
        due(x.undo(), 3);
        due(x.count(7), 0);
        due(x.count(4), 3);
        due(x.begin(2), 7);
    }

    // "NOT_POSSIBLE rather than LIMIT_REACHED", at 60 records of a stopped store
    static void whileStoppedAt60RecordsARestartIsPossible() {
        SealedGroups x = fullAndStopped();
        due(x.checkpoint(), NOT_POSSIBLE);
        due(x.restart(), 1);
        due(x.count(0), 65);
        due(x.checkpoint(), LIMIT);
    }

    // The text's orders are refused one by one, and nothing of them is seen.
    static void aTextThatIsNotPossibleAtItsEndChangesNothing() {
        refused(() -> {
            SealedGroups x = lively();
            typeAll(x, "b2;w2,7,7;s2;o0;t0;c;x;r;r;");
            return x;
        }, SealedGroups::play, NOT_POSSIBLE);
    }
}
