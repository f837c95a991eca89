/** The edges that 'Stops and restarts' in the terms names: one test for each sentence, which stands above it. */
public final class StopsTest extends Checks {
    public static void main(String[] args) {
        runAll(StopsTest.class);
    }

    /** Plays the text, then stops. */
    private static SealedGroups stopped(String text, int torn, int lost) {
        SealedGroups x = after(text);
        due("lost by the stop", x.stop(torn), lost);
        return x;
    }

    // "By a stop all records that are not forced are lost, and the whole cache"
    static void aStopOfANewObjectLosesNothing() {
        SealedGroups x = stopped("", 0, 0);
        due(x.count(7), 1);
        due(x.count(0), 0);
        due(x.restart(), 0);
        due(x.count(7), 0);
        due(x.begin(0), 1);
    }

    // "By a stop all records that are not forced are lost, and the whole cache"
    static void aStopLosesAllRecordsIfNoneIsForced() {
        SealedGroups x = stopped("b0;w0,0,1;w0,1,2;", 0, 3);
        due(x.count(0), 0);
        due(x.count(1), 0);
        due(x.count(2), 0);
        due(x.count(3), 0);
        due(x.recordOf(1, 0), NOT_FOUND);
    }

    // "By a stop all records that are not forced are lost, and the whole cache"
    static void aStopLosesNoRecordIfAllAreForced() {
        SealedGroups x = stopped("b0;w0,0,1;s0;", 0, 0);
        due(x.count(0), 3);
        due(x.count(3), 3);
    }

    // "By a stop all records that are not forced are lost, and the whole cache"
    static void aStopLosesTheRecordBehindTheLastForcedOne() {
        SealedGroups x = stopped("b0;w0,0,1;o0;w0,1,2;", 0, 1);
        due(x.recordOf(2, 0), 1);
        due(x.recordOf(2, 5), 1);
        due(x.recordOf(3, 0), NOT_FOUND);
    }

    // "By a stop all records that are not forced are lost, and the whole cache"
    static void aStopLosesThePagesThatAreNotDirtyToo() {
        SealedGroups x = after("b0;w0,0,1;w0,7,2;o0;");
        due(x.count(5), 129);
        x.stop(0);
        due(x.count(5), 0);
        due(x.count(6), 0);
        due(x.pageOf(0, 0), 1);
        due(x.pageOf(7, 0), 0);
        due(x.pageOf(7, 6), NOT_FOUND);
    }

    // "no group is open for the time being"
    static void noGroupIsOpenBehindAStop() {
        SealedGroups x = stopped("b0;b1;b2;b3;w3,0,1;c;", 0, 0);
        due(x.count(4), 0);
        for (int group = 0; group < 4; group++) {
            due(x.groupOf(group, 0), 0);
            due(x.groupOf(group, 1), NOT_FOUND);
        }
        due(x.pageOf(0, 7), NOT_FOUND);
    }

    // "By a torn stop the last of the forced records is lost, too, if there is one"
    static void aTornStopWithoutForcedRecordsLosesNoMore() {
        stopped("", 1, 0);
        stopped("b0;w0,0,1;", 1, 2);
    }

    // "By a torn stop the last of the forced records is lost, too, if there is one"
    static void aTornStopLosesTheOnlyForcedRecord() {
        SealedGroups x = after("b0;");
        x.force();
        due(x.begin(1), 2);
        due(x.stop(1), 2);
        due(x.count(0), 0);
        due(x.restart(), 0);
        due(x.begin(2), 1);
    }

    // "By a torn stop the last of the forced records is lost, too"
    static void aTornStopLosesOneForcedRecordAlone() {
        SealedGroups x = after("b0;w0,0,1;w0,1,2;w0,2,3;");
        x.force();
        due(x.stop(1), 1);
        due(x.count(2), 3);
        due(x.count(3), 3);
        due(x.recordOf(3, 5), 1);
    }

    // "if there is one, it is not of the kinds 2 and 5"
    static void aTornStopKeepsASettlingAndACheckpoint() {
        SealedGroups x = stopped("b0;w0,0,1;s0;b1;", 1, 1);
        due(x.count(2), 3);
        due(x.recordOf(3, 0), 2);
        x = stopped("b0;w0,0,1;c;b1;", 1, 1);
        due(x.count(2), 3);
        due(x.count(8), 3);
    }

    // "if there is one, it is not of the kinds 2 and 5"
    static void aTornStopLosesARecordOfEachOtherKind() {
        // A record of the kind 3 is the last forced one only if its page is written out with it.
        String[] texts = {"b0;", "b0;w0,0,1;", "b0;w0,0,1;t0;"};
        for (String text : texts) {
            SealedGroups x = after(text);
            x.force();
            int last = x.count(2);
            due(x.stop(1), 1);
            due(x.count(2), last - 1);
        }
    }

    // "and its number is above the marks of all pages on the disk."
    static void aTornStopKeepsARecordWhoseNumberIsAMarkOnTheDisk() {
        for (int page = 0; page < 8; page += 7) {
            SealedGroups x = stopped("b0;w0," + page + ",1;o" + page + ";", 1, 0);
            due(x.count(2), 2);
            due(x.pageOf(page, 3), 2);
        }
    }

    // "and its number is above the marks of all pages on the disk."
    static void aTornStopLosesARecordThatIsOneAboveTheHighestMark() {
        SealedGroups x = after("b0;w0,7,1;o7;w0,0,1;");
        x.force();
        due(x.stop(1), 1);
        due(x.count(2), 2);
        x.restart();
        due(x.pageOf(7, 0), 0);
    }

    // "Looking begins at the latest checkpoint that there is (or at the first record that there is, without one)"
    static void lookingBeginsAtTheLatestCheckpointOrTheFirstRecord() {
        SealedGroups x = new SealedGroups();
        due(x.would(0, 4), NOT_FOUND);
        x.begin(0);
        due(x.would(0, 4), NOT_FOUND);
        x.force();
        due(x.would(0, 4), 1);
        due(x.would(1, 4), NOT_FOUND);
        x.checkpoint();
        due(x.would(1, 4), 2);
        x.write(0, 0, 1);
        x.checkpoint();
        due(x.would(0, 4), 4);
    }

    // "its open groups are losers at first, its dirty pages have their numbers."
    static void groupsAndPagesOfTheCheckpointAreTakenFromIt() {
        SealedGroups x = after("b0;w0,0,1;b1;w1,1,2;o1;b2;s2;b3;w3,7,3;c;");
        due(x.would(0, 3), 11);
        due(x.would(0, 1), 2);
        x.stop(0);
        due(x.restart(), 2);
        due(x.pageOf(0, 6), 2);
        due(x.pageOf(7, 6), 8);
        due(x.pageOf(1, 6), 12);
    }

    // "a record of the kind 0 makes its group a loser; of the kind 2 or 4 makes it a loser no more"
    static void behindTheCheckpointTheLastOfBeginAndEndDecides() {
        SealedGroups x = after("b0;b1;b2;c;s0;t1;b3;");
        x.force();
        due(x.would(0, 3), 12);
        played(x, "b0;b1;", 2);
        x.force();
        due(x.would(0, 3), 15);
        due(x.would(1, 3), 13);
        due(x.would(0, 2), 0);
    }

    // "(without one, of each record)"
    static void withoutACheckpointTheFirstRecordIsLookedAtToo() {
        SealedGroups x = after("b2;");
        x.force();
        due(x.would(0, 3), 4);
        x = after("b2;s2;");
        due(x.would(0, 3), 0);
    }

    // "of the kind 1 or 3 gives its page its own number, if the page has none."
    static void aPageWithANumberKeepsIt() {
        SealedGroups x = after("b0;w0,4,1;c;w0,4,2;w0,4,3;s0;");
        x.stop(0);
        due(x.restart(), 3);
        due(x.pageOf(4, 6), 2);
    }

    // "of the kind 1 or 3 gives its page its own number, if the page has none."
    static void aPageWithoutANumberHasThatOfItsFirstRecordBehindTheCheckpoint() {
        SealedGroups x = after("b0;w0,4,1;o4;c;w0,4,2;w0,4,3;s0;");
        x.stop(0);
        due(x.restart(), 2);
        due(x.pageOf(4, 6), 4);
        x = after("b0;w0,4,1;o4;c;t0;");
        x.force();
        x.stop(0);
        due(x.restart(), 1);
        due(x.pageOf(4, 6), 4);
        due(x.pageOf(4, 0), 0);
    }

    // "from the least number of a page on (if there is one)"
    static void withoutANumberNothingIsDoneAgain() {
        SealedGroups x = stopped("b0;w0,0,1;o0;s0;c;", 0, 0);
        due(x.restart(), 0);
        due(x.count(5), 0);
        x = stopped("b0;s0;", 0, 0);
        due(x.restart(), 0);
    }

    // "from the least number of a page on (if there is one)"
    static void theLeastNumberMayBeThatOfAnyPage() {
        SealedGroups x = stopped("b0;w0,7,1;w0,0,2;s0;", 0, 0);
        due(x.restart(), 2);
        x = stopped("b0;w0,0,1;w0,7,2;s0;", 0, 0);
        due(x.restart(), 2);
        x = stopped("b0;w0,7,1;w0,0,2;c;s0;", 0, 0);
        due(x.restart(), 2);
    }

    // "if the mark of the page as it is now is less than the number of the record"
    static void aRecordWhoseNumberIsTheMarkIsNotDoneAgain() {
        SealedGroups x = stopped("b0;w0,4,1;w0,4,2;o4;w0,4,3;s0;", 0, 0);
        due(x.pageOf(4, 1), 3);
        due(x.restart(), 1);
        due(x.pageOf(4, 0), 3);
        due(x.pageOf(4, 1), 4);
        x = stopped("b0;w0,4,1;w0,4,2;o4;s0;", 0, 0);
        due(x.restart(), 0);
        due(x.pageOf(4, 4), 0);
    }

    // "the page is in the cache with the new value and this mark then. (It is done again.)"
    static void whatIsDoneAgainIsInTheCacheAlone() {
        SealedGroups x = stopped("b0;w0,4,99;w0,5,0;s0;", 0, 0);
        due(x.restart(), 2);
        due(x.count(5), 48);
        due(x.count(6), 48);
        due(x.pageOf(4, 0), 99);
        due(x.pageOf(4, 1), 2);
        due(x.pageOf(4, 2), 0);
        due(x.pageOf(4, 3), 0);
    }

    // "all losers, from the highest record on down, whatever their groups are"
    static void losersAreTakenBackByRecordsNotByGroups() {
        SealedGroups x = after("b3;b0;w0,0,1;w3,3,2;w0,1,3;w3,4,4;");
        x.force();
        x.stop(0);
        due(x.restart(), 4);
        int[] taken = {6, 5, 4, 3};
        for (int i = 0; i < 4; i++) {
            due(x.recordOf(7 + i, 8), taken[i]);
        }
        due(x.recordOf(11, 0), 4);
        due(x.recordOf(11, 1), 0);
        due(x.recordOf(12, 0), 4);
        due(x.recordOf(12, 1), 3);
        due(x.count(2), 12);
    }

    // "of each of their writes since the group began last"
    static void writesBeforeTheGroupBeganLastStay() {
        SealedGroups x = after("b0;w0,0,7;s0;b0;w0,0,8;");
        x.force();
        due(x.would(0, 2), 1);
        due(x.would(0, 10), 7);
        x.stop(0);
        x.restart();
        due(x.recordOf(6, 8), 5);
        due(x.recordOf(7, 0), 4);
        due(x.count(2), 7);
        due(x.pageOf(0, 0), 7);
    }

    // "which was not taken back already"
    static void aWriteThatWasTakenBackIsNotTakenBackOnceMore() {
        SealedGroups x = after("b0;w0,0,1;w0,1,2;t0;o1;");
        due(x.count(3), 4);
        due(x.stop(0), 2);
        due(x.restart(), 1);
        due(x.recordOf(4, 8), 3);
        due(x.recordOf(5, 8), 2);
        due(x.recordOf(6, 0), 4);
        due(x.count(2), 6);
    }

    // "which was not taken back already"
    static void aGroupWhoseEndAloneIsLostHasItsEndMadeAnew() {
        SealedGroups x = after("b0;w0,0,1;t0;");
        x.force();
        due(x.would(1, 2), 0);
        due(x.would(1, 3), 1);
        due(x.stop(1), 1);
        due(x.restart(), 2);
        due(x.count(2), 4);
        due(x.recordOf(4, 0), 4);
    }

    // "when the first record of a loser (the kind 0) is come to, a record of the kind 4."
    static void aLoserWithoutWritesHasAnEnd() {
        SealedGroups x = after("b1;b3;");
        x.force();
        x.stop(0);
        due(x.restart(), 0);
        due(x.count(2), 4);
        due(x.recordOf(3, 0), 4);
        due(x.recordOf(3, 1), 3);
        due(x.recordOf(4, 0), 4);
        due(x.recordOf(4, 1), 1);
    }

    // "when the first record of a loser (the kind 0) is come to, a record of the kind 4."
    static void anEarlierBeginOfALoserIsNotEndedAgain() {
        SealedGroups x = after("b1;s1;b1;");
        x.force();
        x.stop(0);
        x.restart();
        due(x.count(2), 4);
        due(x.recordOf(4, 0), 4);
    }

    // "4. The journal is forced up to its end."
    static void theJournalIsForcedUpToItsEndByARestart() {
        SealedGroups x = after("b0;w0,0,1;c;");
        x.stop(0);
        x.restart();
        due(x.count(0), 5);
        due(x.count(3), 5);
        due(x.recordOf(5, 5), 1);
        due(x.force(), 0);
        due(x.stop(0), 0);
    }

    // "The numbers of new records go on behind the last one that there is (from 1 on, if there is none)."
    static void numbersGoOnBehindTheLastRecord() {
        SealedGroups x = stopped("c;b0;w0,0,1;", 0, 2);
        x.restart();
        due(x.begin(3), 2);
        due(x.write(3, 0, 1), 0);
        due(x.pageOf(0, 1), 3);
        due(x.recordOf(3, 5), 0);
        due(x.dropRecords(), 0);
    }

    // "(from 1 on, if there is none)"
    static void numbersGoOnFrom1IfThereIsNoRecord() {
        SealedGroups x = stopped("b0;w0,0,1;", 0, 2);
        x.restart();
        due(x.count(0), 0);
        due(x.begin(3), 1);
        due(x.recordOf(1, 1), 3);
        due(x.recordOf(1, 5), 0);
    }
}
