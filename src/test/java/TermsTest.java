/** The edges that 'Pages' to 'Checkpoints' in the terms name: one test for each sentence, which stands above it. */
public final class TermsTest extends Checks {
    private static final int[] NO_PAGES = {-1, 8, Integer.MIN_VALUE, Integer.MAX_VALUE};
    private static final int[] NO_GROUPS = {-1, 4, Integer.MIN_VALUE, Integer.MAX_VALUE};

    public static void main(String[] args) {
        runAll(TermsTest.class);
    }

    // "Sets of pages or groups are told as bits: bit k is for number k."
    static void setsAreToldAsBits() {
        for (int k = 0; k < 8; k++) {
            int group = k % 4;
            SealedGroups x = after("b" + group + ";w" + group + "," + k + ",1;");
            due(x.count(4), 1 << group);
            due(x.count(5), 1 << k);
            due(x.count(6), 1 << k);
            due(x.groupOf(group, 3), 1 << k);
            due(x.checkpoint(), 3);
            due(x.recordOf(3, 6), 1 << group);
            due(x.recordOf(3, 7), 1 << k);
            due(x.would(0, 3), 1 << group);
        }
    }

    // Pages

    // "There are 8 pages, numbered from 0."
    static void thereAreThePages0To7() {
        SealedGroups x = new SealedGroups();
        x.begin(0);
        for (int page : new int[] {0, 7}) {
            due(x.write(0, page, 5), 0);
            due(x.writeOut(page) > 0 ? 1 : 0, 1);
            due(x.dropOut(page), 0);
            due(x.pageOf(page, 0), 5);
            due(x.would(0, 10 + page), 0);
        }
    }

    // "There are 8 pages, numbered from 0."
    static void thereIsNoPageBelow0NorFrom8On() {
        SealedGroups x = new SealedGroups();
        x.begin(0);
        for (int page : NO_PAGES) {
            due(x.write(0, page, 5), INVALID);
            due(x.writeOut(page), INVALID);
            due(x.dropOut(page), INVALID);
            for (int what = 0; what < 9; what++) {
                due(x.pageOf(page, what), INVALID);
            }
        }
        due(x.would(0, 9), INVALID);
        due(x.would(0, 18), INVALID);
    }

    // "On the disk, a page has a value (0 to 99) and a mark (0 and more; all are 0 at first)."
    static void diskValuesAndMarksAre0AtFirst() {
        SealedGroups x = new SealedGroups();
        for (int page = 0; page < 8; page++) {
            due(x.pageOf(page, 2), 0);
            due(x.pageOf(page, 3), 0);
        }
    }

    // "On the disk, a page has a value (0 to 99)"
    static void valuesOnTheDiskGoFrom0To99() {
        SealedGroups x = after("b0;w0,4,99;o4;");
        due(x.pageOf(4, 2), 99);
        due(x.pageOf(4, 3), 2);
        x.write(0, 4, 0);
        x.writeOut(4);
        due(x.pageOf(4, 2), 0);
        due(x.pageOf(4, 3), 3);
    }

    // "In the cache there may be a page, with a value and a mark; it is the page as it is now."
    static void thePageInTheCacheIsThePageNow() {
        SealedGroups x = after("b0;w0,4,9;o4;w0,4,8;");
        due(x.pageOf(4, 0), 8);
        due(x.pageOf(4, 1), 3);
        due(x.pageOf(4, 2), 9);
        due(x.pageOf(4, 3), 2);
    }

    // "A page that is not in the cache is as on the disk."
    static void aPageOutOfTheCacheIsAsOnTheDisk() {
        SealedGroups x = after("b0;w0,4,9;o4;w0,5,8;");
        x.dropOut(4);
        due(x.pageOf(4, 4), 0);
        due(x.pageOf(4, 0), 9);
        due(x.pageOf(4, 1), 2);
        due(x.pageOf(6, 0), 0);
        due(x.pageOf(6, 1), 0);
        x.stop(0);
        due(x.pageOf(5, 4), 0);
        due(x.pageOf(5, 0), 0);
        due(x.pageOf(5, 1), 0);
    }

    // "A page in the cache is dirty if its mark is not that on the disk."
    static void theMarkMakesAPageDirtyNotTheValue() {
        SealedGroups x = after("b0;w0,4,0;");
        due(x.pageOf(4, 5), 1);
        due(x.count(6), 16);
        x.writeOut(4);
        due(x.pageOf(4, 5), 0);
        due(x.pageOf(4, 4), 1);
        x.write(0, 4, 0);
        due(x.pageOf(4, 5), 1);
        due(x.pageOf(3, 5), 0);
    }

    // The journal

    // "The journal has records, numbered from 1 on without an end"
    static void recordsAreNumberedFrom1OnWithoutAnEnd() {
        SealedGroups x = new SealedGroups();
        due(x.begin(0), 1);
        due(x.settle(0), 0);
        typeAll(x, "c;".repeat(40));
        for (int i = 1; i <= 100; i++) {
            due(x.play(), 40);
            due(x.count(2), 2 + 40 * i);
            due(x.dropRecords(), i == 1 ? 41 : 40);
        }
        due(x.count(1), 4002);
        due(x.recordOf(4002, 0), 5);
        due(x.begin(3), 4003);
        due(x.write(3, 7, 1), 0);
        due(x.pageOf(7, 1), 4004);
        due(x.recordOf(4004, 2), 7);
        due(x.stop(0), 2);
        due(x.restart(), 0);
        due(x.begin(3), 4003);
    }

    // "kind 3 takes a write of a group back (its new value is the old one of that write, its old value that of the
    // page as it is now)"
    static void aTakingBackHasTheOldValueOfItsWriteAndThatOfThePageNow() {
        SealedGroups x = after("b0;w0,4,99;w0,4,1;t0;");
        due(x.recordOf(4, 8), 3);
        due(x.recordOf(4, 3), 1);
        due(x.recordOf(4, 4), 99);
        due(x.recordOf(5, 8), 2);
        due(x.recordOf(5, 3), 99);
        due(x.recordOf(5, 4), 0);
    }

    // "kind 5 is a checkpoint (with all groups that are open then, and for each dirty page the number from which on it
    // has to be done again)"
    static void aCheckpointHasNoneOrAllGroupsAndPages() {
        SealedGroups x = after("c;b0;b1;b2;b3;w0,0,1;w0,1,1;w1,2,1;w1,3,1;w2,4,1;w2,5,1;w3,6,1;w3,7,1;c;");
        due(x.recordOf(1, 6), 0);
        due(x.recordOf(1, 7), 0);
        due(x.recordOf(14, 6), 15);
        due(x.recordOf(14, 7), 255);
    }

    // "with all groups that are open then"
    static void aCheckpointKeepsWhatWasThen() {
        SealedGroups x = after("b0;w0,0,1;c;s0;o0;b1;w1,1,1;");
        due(x.recordOf(3, 6), 1);
        due(x.recordOf(3, 7), 1);
    }

    // "Records are forced or not; the forced ones are the first ones, up to some record."
    static void theForcedRecordsAreTheFirstOnes() {
        SealedGroups x = after("b0;w0,0,1;w0,1,2;w0,2,3;o1;");
        due(x.count(3), 3);
        for (int record = 1; record <= 4; record++) {
            due(x.recordOf(record, 5), record <= 3 ? 1 : 0);
        }
    }

    // "To force the journal up to a record means that all records up to it are forced."
    static void whatIsForcedStaysForced() {
        SealedGroups x = after("b0;w0,0,1;w0,1,2;o1;o0;");
        due(x.count(3), 3);
        due(x.recordOf(3, 5), 1);
    }

    // "At most 60 records are not yet dropped (below); otherwise LIMIT_REACHED."
    static void the60thRecordIsMadeAndThe61stIsNot() {
        SealedGroups x = filled(new SealedGroups(), 59);
        due(x.checkpoint(), 60);
        due(x.checkpoint(), LIMIT);
        due(x.begin(0), LIMIT);
        due(x.count(0), 60);
    }

    // "At most 60 records are not yet dropped (below)"
    static void droppedRecordsDoNotCountForTheLimit() {
        SealedGroups x = filled(new SealedGroups(), 60);
        due(x.dropRecords(), 59);
        due(x.begin(0), 61);
        for (int i = 3; i <= 60; i++) {
            due(x.write(0, 0, i), i == 3 ? 0 : i - 1);
        }
        due(x.count(0), 60);
        due(x.write(0, 0, 1), LIMIT);
    }

    // Groups

    // "There are 4 groups, numbered from 0."
    static void thereAreTheGroups0To3() {
        SealedGroups x = new SealedGroups();
        int records = 0;
        for (int group : new int[] {0, 3}) {
            due(x.groupOf(group, 0), 0);
            due(x.begin(group), records + 1);
            due(x.write(group, 1, 0), 0);
            due(x.settle(group), 1);
            due(x.begin(group), records + 4);
            due(x.groupOf(group, 0), 1);
            due(x.takeBack(group), 0);
            records += 5;
        }
    }

    // "There are 4 groups, numbered from 0."
    static void thereIsNoGroupBelow0NorFrom4On() {
        SealedGroups x = new SealedGroups();
        for (int group : NO_GROUPS) {
            due(x.begin(group), INVALID);
            due(x.write(group, 0, 0), INVALID);
            due(x.settle(group), INVALID);
            due(x.takeBack(group), INVALID);
            for (int what = 0; what < 4; what++) {
                due(x.groupOf(group, what), INVALID);
            }
        }
        due(x.count(0), 0);
    }

    // "A group is open or not."
    static void allGroupsMayBeOpen() {
        SealedGroups x = after("b3;b2;b1;b0;");
        due(x.count(4), 15);
        due(x.begin(0), NOT_POSSIBLE);
        due(x.settle(3), 0);
        due(x.count(4), 7);
    }

    // "An open group holds pages: those that it has written since it began."
    static void aGroupHoldsWhatItHasWrittenSinceItBegan() {
        SealedGroups x = after("b1;");
        due(x.groupOf(1, 3), 0);
        played(x, "w1,0,1;w1,7,1;", 2);
        due(x.groupOf(1, 3), 129);
        due(x.pageOf(0, 7), 1);
        due(x.pageOf(7, 7), 1);
        due(x.pageOf(1, 7), NOT_FOUND);
        played(x, "s1;", 1);
        due(x.pageOf(7, 7), NOT_FOUND);
        played(x, "b1;", 1);
        due(x.groupOf(1, 3), 0);
        due(x.pageOf(7, 7), NOT_FOUND);
    }

    // "An open group holds pages: those that it has written since it began."
    static void allPagesMayBeHeldByOneGroup() {
        SealedGroups x = after("b2;w2,0,1;w2,1,1;w2,2,1;w2,3,1;w2,4,1;w2,5,1;w2,6,1;w2,7,1;");
        due(x.groupOf(2, 3), 255);
        due(x.settle(2), 8);
    }

    // "A write of a page that another open group holds is not possible."
    static void aHeldPageIsWrittenByItsGroupAlone() {
        SealedGroups x = after("b0;b3;w3,7,5;");
        due(x.write(0, 7, 6), NOT_POSSIBLE);
        due(x.write(3, 7, 6), 5);
        due(x.write(0, 6, 6), 0);
    }

    // "A write of a page that another open group holds is not possible."
    static void aHeldPageIsHeldOutOfTheCacheToo() {
        SealedGroups x = after("b0;b3;w3,7,5;o7;");
        due(x.dropOut(7), 0);
        due(x.pageOf(7, 7), 3);
        due(x.write(0, 7, 6), NOT_POSSIBLE);
    }

    // "A write of a page that another open group holds is not possible."
    static void aPageIsHeldNoMoreWhenItsGroupHasEnded() {
        SealedGroups x = after("b0;b3;w3,7,5;s3;");
        due(x.write(0, 7, 6), 5);
        x = after("b0;b3;w3,7,5;t3;");
        due(x.write(0, 7, 6), 0);
        x = after("b3;w3,7,5;c;x;r;b0;b3;");
        due(x.write(0, 7, 6), 0);
    }

    // "A write of an open group makes a record with the value of the page as it is now (old) and the new one; the page
    // comes into the cache with the new value, and with the number of the record as its mark."
    static void aWriteOfTheSameValueIsAWrite() {
        SealedGroups x = after("b0;w0,4,99;o4;");
        x.dropOut(4);
        due(x.write(0, 4, 99), 99);
        due(x.recordOf(3, 3), 99);
        due(x.recordOf(3, 4), 99);
        due(x.pageOf(4, 4), 1);
        due(x.pageOf(4, 1), 3);
        due(x.pageOf(4, 3), 2);
        due(x.groupOf(0, 2), 2);
    }

    // "To settle an open group makes a record of the kind 2, forces the journal up to it, and the group is not open any
    // more."
    static void settlingAGroupWithoutWritesForcesTheOthersRecordsToo() {
        SealedGroups x = after("b0;b1;w1,0,5;");
        due(x.count(3), 0);
        due(x.settle(0), 0);
        due(x.recordOf(4, 0), 2);
        due(x.recordOf(4, 1), 0);
        due(x.count(3), 4);
        due(x.count(4), 2);
    }

    // "To take an open group back means: for its writes, the latest first, those that were taken back already left out,
    // a record of the kind 3"
    static void takingBackTakesTheLatestWriteFirstAndThoseOfThisBeginningAlone() {
        SealedGroups x = after("b0;w0,0,1;t0;b0;w0,0,2;b1;w1,5,9;w0,1,3;");
        due(x.takeBack(0), 2);
        due(x.recordOf(10, 8), 9);
        due(x.recordOf(11, 8), 6);
        due(x.recordOf(12, 0), 4);
        due(x.count(2), 12);
        due(x.pageOf(5, 0), 9);
        due(x.count(4), 2);
    }

    // "by which the page has its old value again, with the number of the record as its mark"
    static void aPageTakenBackComesIntoTheCache() {
        SealedGroups x = after("b0;w0,4,9;o4;");
        x.dropOut(4);
        due(x.takeBack(0), 1);
        due(x.pageOf(4, 4), 1);
        due(x.pageOf(4, 0), 0);
        due(x.pageOf(4, 1), 3);
        due(x.pageOf(4, 2), 9);
        due(x.pageOf(4, 6), 3);
    }

    // "then a record of the kind 4. The group is not open any more."
    static void takingBackAGroupWithoutWritesMakesItsEndAlone() {
        SealedGroups x = after("b2;");
        due(x.takeBack(2), 0);
        due(x.count(2), 2);
        due(x.recordOf(2, 0), 4);
        due(x.recordOf(2, 1), 2);
        due(x.groupOf(2, 0), 0);
    }

    // "(Nothing is forced by this.)"
    static void takingBackForcesNothing() {
        SealedGroups x = after("b0;w0,0,1;w0,1,1;o0;t0;");
        due(x.count(2), 6);
        due(x.count(3), 2);
    }

    // Writing out

    // "To write a page out, which is dirty, means: the journal is forced up to its mark"
    static void writingOutForcesUpToTheMarkAndNotBeyond() {
        SealedGroups x = after("b0;w0,0,1;w0,1,2;w0,2,3;");
        due(x.writeOut(1), 3);
        due(x.count(3), 3);
        due(x.writeOut(0), 0);
        due(x.count(3), 3);
        due(x.writeOut(2), 1);
        due(x.count(3), 4);
    }

    // "the page on the disk is as in the cache then, and is in the cache still."
    static void aPageWrittenOutIsInTheCacheStill() {
        SealedGroups x = after("b0;w0,7,44;o7;");
        due(x.pageOf(7, 4), 1);
        due(x.pageOf(7, 2), 44);
        due(x.pageOf(7, 3), 2);
        due(x.count(5), 128);
        due(x.count(6), 0);
    }

    // "To drop a page out of the cache is possible if it is not dirty."
    static void aDirtyPageIsNotDroppedOut() {
        SealedGroups x = after("b0;w0,0,1;");
        due(x.dropOut(0), NOT_POSSIBLE);
        x.writeOut(0);
        due(x.dropOut(0), 0);
        due(x.dropOut(0), NOT_POSSIBLE);
        played(x, "w0,0,1;", 1);
        due(x.dropOut(0), NOT_POSSIBLE);
    }

    // "A page that is dirty has to be done again from the record by which it became dirty (the first one since it was
    // last not dirty"
    static void thePageIsDoneAgainFromItsFirstRecordSinceItWasNotDirty() {
        SealedGroups x = after("b0;w0,4,1;w0,4,2;");
        due(x.pageOf(4, 6), 2);
        x.writeOut(4);
        due(x.pageOf(4, 6), NOT_FOUND);
        played(x, "w0,5,1;w0,4,3;w0,4,4;", 3);
        due(x.pageOf(4, 6), 5);
        x.takeBack(0);
        due(x.pageOf(4, 6), 5);
        due(x.pageOf(5, 6), 4);
    }

    // "behind a restart the first one by which it was done again, or taken back)"
    static void behindARestartThePageIsDoneAgainFromWhatTheRestartDidFirst() {
        SealedGroups x = after("b0;w0,4,1;o4;w0,4,2;w0,4,3;s0;");
        x.stop(0);
        due(x.restart(), 2);
        due(x.pageOf(4, 6), 3);
        x = after("b0;w0,4,1;w0,4,2;o4;");
        x.stop(0);
        due(x.restart(), 0);
        due(x.pageOf(4, 6), 4);
        due(x.pageOf(4, 1), 5);
    }

    // Checkpoints

    // "A checkpoint makes a record of the kind 5, and forces the journal up to it."
    static void aCheckpointForcesUpToItself() {
        SealedGroups x = after("b0;w0,0,1;");
        due(x.count(3), 0);
        due(x.checkpoint(), 3);
        due(x.recordOf(3, 0), 5);
        due(x.recordOf(3, 5), 1);
        due(x.count(3), 3);
    }

    // "Nothing else changes."
    static void aCheckpointWritesNoPageOutAndEndsNoGroup() {
        SealedGroups x = after("b0;w0,0,1;b1;w1,1,2;o1;c;");
        due(x.count(4), 3);
        due(x.count(5), 3);
        due(x.count(6), 1);
        due(x.pageOf(0, 2), 0);
        due(x.pageOf(0, 6), 2);
        due(x.groupOf(0, 3), 1);
        due(x.groupOf(1, 1), 3);
    }

    // "Records can be dropped up to, not with, the least of: the latest checkpoint that there is"
    static void recordsAreDroppedUpToTheLatestCheckpointNotWithIt() {
        SealedGroups x = after("c;b0;s0;c;b0;s0;");
        due(x.count(8), 4);
        due(x.count(9), 3);
        due(x.dropRecords(), 3);
        due(x.count(1), 4);
        due(x.recordOf(4, 0), 5);
        due(x.recordOf(3, 0), NOT_FOUND);
        due(x.dropRecords(), 0);
        due(x.count(0), 3);
    }

    // "the records by which groups began that were open then (at the checkpoint)"
    static void recordsAreDroppedUpToTheFirstBeginOfAnOpenGroupNotWithIt() {
        SealedGroups x = after("b2;s2;b3;b0;c;");
        due(x.count(9), 2);
        played(x, "s3;s0;b1;", 3);
        due(x.count(9), 2);
        due(x.dropRecords(), 2);
        due(x.recordOf(3, 0), 0);
        due(x.recordOf(3, 1), 3);
        due(x.recordOf(2, 0), NOT_FOUND);
    }

    // "the records by which groups began that were open then (at the checkpoint)"
    static void theFirstRecordMayBeTheBeginOfAnOpenGroup() {
        SealedGroups x = after("b3;b2;s2;c;");
        due(x.count(9), 0);
        due(x.dropRecords(), 0);
        due(x.count(0), 4);
    }

    // "and the numbers from which dirty pages had to be done again then."
    static void recordsAreDroppedUpToTheFirstNumberOfADirtyPageNotWithIt() {
        SealedGroups x = after("b0;w0,0,1;w0,7,2;w0,0,3;s0;o0;c;");
        due(x.count(9), 2);
        played(x, "o7;b0;w0,1,1;", 3);
        due(x.count(9), 2);
        due(x.dropRecords(), 2);
        due(x.recordOf(3, 0), 1);
        due(x.recordOf(2, 0), NOT_FOUND);
        due(x.count(9), 0);
        due(x.pageOf(7, 8), 2);
    }

    // "and the numbers from which dirty pages had to be done again then."
    static void allPagesDirtyLetTheLeastNumberDecide() {
        SealedGroups x = after("b0;s0;b0;w0,7,1;w0,6,1;w0,5,1;w0,3,1;w0,2,1;w0,1,1;w0,0,1;s0;c;");
        due(x.count(9), 3);
        due(x.dropRecords(), 3);
        due(x.count(1), 4);
    }

    // "Dropped records are gone; they are the first ones."
    static void droppedRecordsAreGone() {
        SealedGroups x = after("b0;w0,0,5;s0;o0;c;");
        due(x.pageOf(0, 8), 5);
        due(x.dropRecords(), 3);
        for (int record = 1; record <= 3; record++) {
            for (int what = 0; what < 9; what++) {
                due(x.recordOf(record, what), NOT_FOUND);
            }
        }
        due(x.pageOf(0, 8), NOT_FOUND);
        due(x.count(0), 1);
        due(x.count(3), 1);
        due(x.would(0, 4), 4);
    }

    // "Dropped records are gone; they are the first ones."
    static void theRecordsThatStayAreAsBefore() {
        SealedGroups x = after("b0;s0;b2;w2,6,7;w2,6,9;t2;b1;w1,5,3;c;b3;");
        int[][] before = new int[13][9];
        for (int record = 3; record <= 12; record++) {
            for (int what = 0; what < 9; what++) {
                before[record][what] = x.recordOf(record, what);
            }
        }
        due(x.dropRecords(), 3);
        for (int record = 4; record <= 12; record++) {
            for (int what = 0; what < 9; what++) {
                due(x.recordOf(record, what), before[record][what]);
            }
        }
    }

    // "Dropped records are gone; they are the first ones."
    static void aRestartDoesWithTheRecordsThatStay() {
        SealedGroups x = after("b0;s0;b2;w2,6,7;w2,5,8;s2;b1;w1,5,9;c;");
        due(x.dropRecords(), 3);
        x.stop(0);
        due(x.restart(), 3);
        due(x.pageOf(6, 0), 7);
        due(x.pageOf(5, 0), 8);
        due(x.recordOf(10, 8), 8);
        due(x.recordOf(11, 0), 4);
        due(x.count(2), 11);
    }
}
