/** The edges that the promises 1 to 18 name: a test for each sentence, which stands above it with its promise. */
public final class EdgesTest extends Checks {
    private static final int[] FAR = {Integer.MIN_VALUE, Integer.MAX_VALUE};

    public static void main(String[] args) {
        runAll(EdgesTest.class);
    }

    // 1: "Creates a store whose pages are 0, with an empty journal."
    static void aNewObjectHasPagesOf0AndNoRecord() {
        SealedGroups x = new SealedGroups();
        for (int page = 0; page < 8; page++) {
            due(x.pageOf(page, 0), 0);
            due(x.pageOf(page, 1), 0);
            due(x.pageOf(page, 4), 0);
        }
        due(x.count(0), 0);
        due(x.recordOf(1, 0), NOT_FOUND);
    }

    // 1: objects have nothing in common
    static void objectsAreApart() {
        SealedGroups one = new SealedGroups();
        SealedGroups other = new SealedGroups();
        played(one, "b0;w0,0,9;c;", 3);
        due(other.count(0), 0);
        due(other.pageOf(0, 0), 0);
        due(other.count(11), 0);
        due(other.count(12), 0);
        due(other.begin(0), 1);
        due(one.count(2), 3);
    }

    // 2: "Returns the number of the record"
    static void beginTellsItsRecord() {
        SealedGroups x = filled(new SealedGroups(), 59);
        due(x.begin(3), 60);
        due(x.recordOf(60, 0), 0);
        due(x.recordOf(60, 1), 3);
    }

    // 2: "INVALID_ARGUMENT if group is out of range"
    static void beginOfNoGroup() {
        SealedGroups x = new SealedGroups();
        due(x.begin(-1), INVALID);
        due(x.begin(4), INVALID);
        for (int far : FAR) {
            due(x.begin(far), INVALID);
        }
    }

    // 2: "NOT_POSSIBLE if it is open"
    static void beginOfAnOpenGroup() {
        SealedGroups x = new SealedGroups();
        for (int group = 0; group < 4; group++) {
            due(x.begin(group), 3 * group + 1);
            due(x.begin(group), NOT_POSSIBLE);
            due(x.settle(group), 0);
            due(x.begin(group), 3 * group + 3);
        }
    }

    // 2: "LIMIT_REACHED if there are 60 records."
    static void beginAt60Records() {
        SealedGroups x = filled(new SealedGroups(), 60);
        due(x.begin(0), LIMIT);
        due(x.undo(), 3);
        due(x.begin(0), 60);
        due(x.begin(1), LIMIT);
    }

    // 3: "Returns the value that the page had"
    static void writeTellsTheValueBefore() {
        SealedGroups x = after("b0;");
        due(x.write(0, 0, 99), 0);
        due(x.write(0, 0, 0), 99);
        due(x.write(0, 0, 7), 0);
        x.writeOut(0);
        x.dropOut(0);
        due(x.write(0, 0, 8), 7);
    }

    // 3: "INVALID_ARGUMENT if an argument is out of range"
    static void writeOutOfRange() {
        SealedGroups x = after("b0;b3;");
        due(x.write(-1, 0, 0), INVALID);
        due(x.write(4, 0, 0), INVALID);
        due(x.write(0, -1, 0), INVALID);
        due(x.write(0, 8, 0), INVALID);
        due(x.write(0, 0, -1), INVALID);
        due(x.write(0, 0, 100), INVALID);
        for (int far : FAR) {
            due(x.write(far, 0, 0), INVALID);
            due(x.write(0, far, 0), INVALID);
            due(x.write(0, 0, far), INVALID);
        }
        due(x.write(3, 7, 99), 0);
        due(x.write(0, 0, 0), 0);
    }

    // 3: "NOT_POSSIBLE if the group is not open, or another open group holds the page"
    static void writeOfAClosedGroupOrAHeldPage() {
        SealedGroups x = after("b0;w0,0,1;b1;");
        due(x.write(2, 1, 1), NOT_POSSIBLE);
        due(x.write(1, 0, 1), NOT_POSSIBLE);
        played(x, "s0;", 1);
        due(x.write(0, 1, 1), NOT_POSSIBLE);
        due(x.write(1, 0, 2), 1);
    }

    // 3: "LIMIT_REACHED if there are 60 records."
    static void writeAt60Records() {
        SealedGroups x = filled(after("b0;"), 59);
        due(x.write(0, 0, 1), 0);
        due(x.write(0, 0, 2), LIMIT);
        due(x.pageOf(0, 0), 1);
    }

    // 4: "Returns how many pages it held"
    static void settleTellsThePagesNotTheWrites() {
        SealedGroups x = after("b0;b1;w0,0,1;w0,0,2;w0,7,1;w1,3,1;");
        due(x.settle(0), 2);
        due(x.settle(1), 1);
        x.begin(0);
        due(x.settle(0), 0);
    }

    // 4: "INVALID_ARGUMENT if group is out of range; NOT_POSSIBLE if it is not open"
    static void settleOfNoGroupOrAClosedOne() {
        SealedGroups x = after("b0;s0;");
        due(x.settle(-1), INVALID);
        due(x.settle(4), INVALID);
        for (int far : FAR) {
            due(x.settle(far), INVALID);
        }
        due(x.settle(0), NOT_POSSIBLE);
        due(x.settle(3), NOT_POSSIBLE);
    }

    // 4: "LIMIT_REACHED if there are 60 records."
    static void settleAt60Records() {
        SealedGroups x = filled(after("b0;b1;"), 59);
        due(x.settle(0), 0);
        due(x.settle(1), LIMIT);
        due(x.groupOf(1, 0), 1);
    }

    // 5: "Returns how many writes are taken back"
    static void takeBackTellsTheWritesNotThePages() {
        SealedGroups x = after("b0;w0,0,1;w0,0,2;w0,7,1;");
        due(x.takeBack(0), 3);
        x.begin(0);
        due(x.takeBack(0), 0);
    }

    // 5: "INVALID_ARGUMENT if group is out of range; NOT_POSSIBLE if it is not open"
    static void takeBackOfNoGroupOrAClosedOne() {
        SealedGroups x = after("b0;t0;");
        due(x.takeBack(-1), INVALID);
        due(x.takeBack(4), INVALID);
        for (int far : FAR) {
            due(x.takeBack(far), INVALID);
        }
        due(x.takeBack(0), NOT_POSSIBLE);
        due(x.takeBack(3), NOT_POSSIBLE);
    }

    // 5: "LIMIT_REACHED if there would be more than 60 records."
    static void takeBackUpTo60Records() {
        SealedGroups x = filled(after("b0;w0,0,1;w0,0,2;"), 57);
        due(x.takeBack(0), 2);
        due(x.count(0), 60);
        x = filled(after("b0;w0,0,1;w0,0,2;"), 58);
        due(x.takeBack(0), LIMIT);
        x = filled(after("b0;"), 59);
        due(x.takeBack(0), 0);
        x = filled(after("b0;"), 60);
        due(x.takeBack(0), LIMIT);
    }

    // 6: "Returns how many records are forced by it"
    static void writeOutTellsTheRecordsForced() {
        SealedGroups x = after("b0;w0,0,1;w0,1,1;w0,2,1;");
        due(x.writeOut(1), 3);
        due(x.writeOut(0), 0);
        due(x.writeOut(2), 1);
    }

    // 6: "Returns how many records are forced by it", of records behind dropped ones
    static void writeOutBehindDroppedRecords() {
        SealedGroups x = after("b0;s0;c;b0;w0,0,1;w0,0,2;");
        due(x.dropRecords(), 2);
        due(x.writeOut(0), 3);
        due(x.count(3), 4);
    }

    // 6: "INVALID_ARGUMENT if page is out of range; NOT_POSSIBLE if it is not dirty."
    static void writeOutOfNoPageOrOneThatIsNotDirty() {
        SealedGroups x = after("b0;w0,0,1;");
        due(x.writeOut(-1), INVALID);
        due(x.writeOut(8), INVALID);
        for (int far : FAR) {
            due(x.writeOut(far), INVALID);
        }
        due(x.writeOut(7), NOT_POSSIBLE);
        due(x.writeOut(0), 2);
        due(x.writeOut(0), NOT_POSSIBLE);
    }

    // 7: "Returns how many pages are in the cache then"
    static void dropOutTellsThePagesLeft() {
        SealedGroups x = after("b0;w0,0,1;w0,3,1;w0,7,1;o0;o7;");
        due(x.dropOut(7), 2);
        due(x.dropOut(0), 1);
        x.writeOut(3);
        due(x.dropOut(3), 0);
        due(x.count(5), 0);
    }

    // 7: "INVALID_ARGUMENT if page is out of range; NOT_POSSIBLE if it is not there, or is dirty."
    static void dropOutOfNoPageOrOneThatIsNotThereOrIsDirty() {
        SealedGroups x = after("b0;w0,0,1;");
        due(x.dropOut(-1), INVALID);
        due(x.dropOut(8), INVALID);
        for (int far : FAR) {
            due(x.dropOut(far), INVALID);
        }
        due(x.dropOut(7), NOT_POSSIBLE);
        due(x.dropOut(0), NOT_POSSIBLE);
    }

    // 8: "Returns the number of its record; NOT_POSSIBLE; LIMIT_REACHED if there are 60 records."
    static void checkpointUpTo60Records() {
        SealedGroups x = new SealedGroups();
        for (int i = 1; i <= 60; i++) {
            due(x.checkpoint(), i);
        }
        due(x.checkpoint(), LIMIT);
        due(x.count(8), 60);
        x.stop(0);
        due(x.checkpoint(), NOT_POSSIBLE);
    }

    // 9: "Returns how many these are"
    static void dropRecordsTellsHowMany() {
        SealedGroups x = after("c;");
        due(x.dropRecords(), 0);
        x.checkpoint();
        due(x.dropRecords(), 1);
        filled(x, 60);
        due(x.dropRecords(), 59);
        due(x.dropRecords(), 0);
    }

    // 9: "NOT_POSSIBLE if the store is stopped, or there is no checkpoint."
    static void dropRecordsWhileStoppedOrWithoutACheckpoint() {
        SealedGroups x = new SealedGroups();
        due(x.dropRecords(), NOT_POSSIBLE);
        played(x, "b0;s0;", 2);
        due(x.dropRecords(), NOT_POSSIBLE);
        x.checkpoint();
        x.stop(0);
        due(x.dropRecords(), NOT_POSSIBLE);
        x.restart();
        due(x.dropRecords(), 2);
    }

    // 10: "Returns how many records are forced by it; NOT_POSSIBLE if the store is stopped."
    static void forceTellsTheRecordsForced() {
        SealedGroups x = new SealedGroups();
        due(x.force(), 0);
        played(x, "b0;w0,0,1;w0,1,1;o0;", 4);
        due(x.force(), 1);
        due(x.force(), 0);
        due(x.count(3), 3);
        x.stop(0);
        due(x.force(), NOT_POSSIBLE);
    }

    // 10: "Returns how many records are forced by it", all 60
    static void forceOf60Records() {
        SealedGroups x = after("b0;");
        for (int i = 2; i <= 60; i++) {
            x.write(0, 0, i);
        }
        due(x.force(), 60);
        due(x.count(3), 60);
    }

    // 11: "Returns how many records are lost"
    static void stopTellsTheRecordsLost() {
        SealedGroups x = after("b0;w0,0,1;w0,1,1;o0;w0,2,1;");
        due(x.would(0, 0), 2);
        due(x.stop(0), 2);
        x = after("b0;");
        for (int i = 2; i <= 60; i++) {
            x.write(0, 0, i);
        }
        due(x.stop(0), 60);
        due(x.restart(), 0);
        due(x.stop(1), 0);
    }

    // 11: "INVALID_ARGUMENT if torn is out of range; NOT_POSSIBLE if it is stopped."
    static void stopOutOfRangeOrWhileStopped() {
        SealedGroups x = new SealedGroups();
        due(x.stop(-1), INVALID);
        due(x.stop(2), INVALID);
        for (int far : FAR) {
            due(x.stop(far), INVALID);
        }
        due(x.count(7), 0);
        due(x.stop(1), 0);
        due(x.stop(0), NOT_POSSIBLE);
        due(x.stop(1), NOT_POSSIBLE);
        due(x.stop(2), INVALID);
        due(x.count(7), 1);
    }

    // 12: "(It may have more than 60 records then.)"
    static void aRestartAt60RecordsMayMake60More() {
        SealedGroups x = after("b0;");
        for (int i = 2; i <= 60; i++) {
            due(x.write(0, i % 8, i), i < 10 ? 0 : i - 8);
        }
        x.force();
        x.stop(0);
        due(x.restart(), 59);
        due(x.count(0), 120);
        due(x.count(2), 120);
        due(x.count(3), 120);
        due(x.recordOf(61, 8), 60);
        due(x.recordOf(119, 8), 2);
        due(x.recordOf(120, 0), 4);
        due(x.recordOf(121, 0), NOT_FOUND);
        for (int page = 0; page < 8; page++) {
            due(x.pageOf(page, 0), 0);
        }
    }

    // 12: "(It may have more than 60 records then.)", but others may make none then
    static void beyond60RecordsOtherCallsMakeNone() {
        SealedGroups x = filled(after("b0;w0,0,1;"), 60);
        x.stop(0);
        due(x.restart(), 1);
        due(x.count(0), 62);
        due(x.begin(0), LIMIT);
        due(x.checkpoint(), LIMIT);
        due(x.writeOut(0), 0);
        due(x.dropOut(0), 0);
        due(x.force(), 0);
        due(x.stop(1), 1);
        due(x.restart(), 0);
        due(x.count(0), 62);
        due(x.dropRecords(), 0);
        due(x.begin(0), LIMIT);
    }

    // 12: "Returns how many records were done again; NOT_POSSIBLE if it is not stopped."
    static void restartTellsTheRecordsDoneAgain() {
        SealedGroups x = new SealedGroups();
        due(x.restart(), NOT_POSSIBLE);
        x.stop(0);
        due(x.restart(), 0);
        due(x.restart(), NOT_POSSIBLE);
        played(x, "b0;w0,0,1;w0,0,2;w0,1,1;s0;x;", 6);
        due(x.restart(), 3);
        due(x.count(10), 3);
    }

    // 13: "INVALID_ARGUMENT if an argument is out of range"
    static void pageOfOutOfRange() {
        SealedGroups x = new SealedGroups();
        due(x.pageOf(-1, 0), INVALID);
        due(x.pageOf(8, 0), INVALID);
        due(x.pageOf(0, -1), INVALID);
        due(x.pageOf(0, 9), INVALID);
        for (int far : FAR) {
            due(x.pageOf(far, 0), INVALID);
            due(x.pageOf(0, far), INVALID);
        }
        due(x.pageOf(7, 0), 0);
        due(x.pageOf(7, 8), NOT_FOUND);
    }

    // 13: "4: 1 if it is in the cache, otherwise 0; 5: 1 if it is dirty, otherwise 0"
    static void pageOfTellsOfTheCache() {
        SealedGroups x = after("b0;w0,0,1;w0,7,1;o0;");
        int[] pages = {0, 7, 3};
        int[] cached = {1, 1, 0};
        int[] dirty = {0, 1, 0};
        for (int i = 0; i < 3; i++) {
            due(x.pageOf(pages[i], 4), cached[i]);
            due(x.pageOf(pages[i], 5), dirty[i]);
        }
    }

    // 13: "NOT_FOUND for 6 if it is not dirty, for 7 if none holds it, for 8 if there is no such write."
    static void pageOfFindsNoStartNoHolderNoSettledWrite() {
        SealedGroups x = after("b3;w3,0,1;o0;");
        due(x.pageOf(0, 6), NOT_FOUND);
        due(x.pageOf(0, 7), 3);
        due(x.pageOf(0, 8), NOT_FOUND);
        played(x, "w3,0,2;s3;", 2);
        due(x.pageOf(0, 6), 3);
        due(x.pageOf(0, 7), NOT_FOUND);
        due(x.pageOf(0, 8), 2);
        due(x.pageOf(1, 6), NOT_FOUND);
        due(x.pageOf(1, 7), NOT_FOUND);
        due(x.pageOf(1, 8), NOT_FOUND);
    }

    // 13: "whose group was settled behind it, before that group began anew"
    static void aWriteCountsByTheEndOfItsOwnBeginning() {
        SealedGroups x = after("b0;w0,0,1;t0;b0;s0;");
        due(x.pageOf(0, 8), NOT_FOUND);
        x = after("b0;w0,0,1;b1;s1;");
        due(x.pageOf(0, 8), NOT_FOUND);
        x = after("b0;w0,0,1;s0;b0;w0,0,2;t0;");
        due(x.pageOf(0, 8), 1);
        x = after("b0;w0,0,1;s0;b0;w0,0,0;s0;");
        due(x.pageOf(0, 8), 0);
    }

    // 13: "(kind 1)": what a restart does again or takes back is none
    static void theSettledWriteIsOfTheKind1() {
        SealedGroups x = after("b0;w0,0,1;s0;b0;w0,0,2;c;x;r;");
        due(x.pageOf(0, 0), 1);
        due(x.pageOf(0, 8), 1);
        x = after("b0;w0,0,5;c;x;r;b0;s0;");
        due(x.pageOf(0, 8), NOT_FOUND);
    }

    // 13: "in the journal"
    static void aDroppedOrLostWriteIsNoneInTheJournal() {
        SealedGroups x = after("b0;w0,0,1;s0;o0;c;");
        due(x.pageOf(0, 8), 1);
        x.dropRecords();
        due(x.pageOf(0, 8), NOT_FOUND);
        x = after("b0;w0,0,1;o0;c;s0;");
        due(x.dropRecords(), 0);
        due(x.pageOf(0, 8), 1);
        x.checkpoint();
        due(x.dropRecords(), 4);
        due(x.pageOf(0, 8), NOT_FOUND);
    }

    // 14: "INVALID_ARGUMENT if an argument is out of range, or record is below 1"
    static void recordOfOutOfRange() {
        SealedGroups x = after("c;");
        due(x.recordOf(0, 0), INVALID);
        due(x.recordOf(-1, 0), INVALID);
        due(x.recordOf(Integer.MIN_VALUE, 0), INVALID);
        due(x.recordOf(1, -1), INVALID);
        due(x.recordOf(1, 9), INVALID);
        for (int far : FAR) {
            due(x.recordOf(1, far), INVALID);
        }
        for (int what = 0; what < 9; what++) {
            due(x.recordOf(0, what), INVALID);
        }
        due(x.recordOf(1, 0), 5);
        due(x.recordOf(1, 8), NOT_FOUND);
    }

    // 14: "NOT_FOUND if there is no such record (now)"
    static void recordOfNoRecord() {
        SealedGroups x = new SealedGroups();
        due(x.recordOf(1, 0), NOT_FOUND);
        played(x, "c;c;b0;", 3);
        due(x.recordOf(3, 0), 0);
        due(x.recordOf(4, 0), NOT_FOUND);
        due(x.recordOf(Integer.MAX_VALUE, 0), NOT_FOUND);
        x.dropRecords();
        due(x.recordOf(1, 0), NOT_FOUND);
        due(x.recordOf(2, 0), 5);
        x.stop(0);
        due(x.recordOf(3, 0), NOT_FOUND);
        due(x.recordOf(2, 0), 5);
    }

    // 14: "or it has no such thing."
    static void recordOfNoSuchThing() {
        SealedGroups x = after("b2;w2,0,0;t2;b2;s2;c;");
        int none = NOT_FOUND;
        int[][] want = {
            {0, 2, none, none, none, 1, none, none, none},
            {1, 2, 0, 0, 0, 1, none, none, none},
            {3, 2, 0, 0, 0, 1, none, none, 2},
            {4, 2, none, none, none, 1, none, none, none},
            {0, 2, none, none, none, 1, none, none, none},
            {2, 2, none, none, none, 1, none, none, none},
            {5, none, none, none, none, 1, 0, 1, none},
        };
        for (int record = 1; record <= 7; record++) {
            for (int what = 0; what < 9; what++) {
                due(x.recordOf(record, what), want[record - 1][what]);
            }
        }
    }

    // 14: "5: 1 if it is forced, otherwise 0"
    static void recordOfTellsWhatIsForced() {
        SealedGroups x = after("b0;c;b1;");
        due(x.recordOf(1, 5), 1);
        due(x.recordOf(2, 5), 1);
        due(x.recordOf(3, 5), 0);
        x.dropRecords();
        x.force();
        due(x.recordOf(3, 5), 1);
    }

    // 15: "INVALID_ARGUMENT if an argument is out of range; NOT_FOUND for 1 to 3 if it is not open."
    static void groupOfOutOfRangeOrNotOpen() {
        SealedGroups x = new SealedGroups();
        due(x.groupOf(-1, 0), INVALID);
        due(x.groupOf(4, 0), INVALID);
        due(x.groupOf(0, -1), INVALID);
        due(x.groupOf(0, 4), INVALID);
        for (int far : FAR) {
            due(x.groupOf(far, 0), INVALID);
            due(x.groupOf(0, far), INVALID);
        }
        for (int group = 0; group < 4; group++) {
            due(x.groupOf(group, 0), 0);
            for (int what = 1; what < 4; what++) {
                due(x.groupOf(group, what), NOT_FOUND);
            }
        }
    }

    // 15: "2: how many writes it has made since; 3: the set of pages that it holds"
    static void groupOfCountsFromTheLastBeginOn() {
        SealedGroups x = after("b3;w3,0,1;w3,7,1;w3,7,2;");
        int[] first = {1, 1, 3, 129};
        for (int what = 0; what < 4; what++) {
            due(x.groupOf(3, what), first[what]);
        }
        played(x, "t3;b3;", 2);
        int[] then = {1, 9, 0, 0};
        for (int what = 0; what < 4; what++) {
            due(x.groupOf(3, what), then[what]);
        }
    }

    // 16: "INVALID_ARGUMENT if an argument is out of range; NOT_POSSIBLE if it is stopped"
    static void wouldOutOfRangeOrWhileStopped() {
        SealedGroups x = new SealedGroups();
        int[] out = {-1, 5, 9, 18, Integer.MIN_VALUE, Integer.MAX_VALUE};
        for (int what : out) {
            due(x.would(0, what), INVALID);
            due(x.would(1, what), INVALID);
        }
        int[] torn = {-1, 2, Integer.MIN_VALUE, Integer.MAX_VALUE};
        for (int no : torn) {
            due(x.would(no, 0), INVALID);
            due(x.would(no, 1), INVALID);
            due(x.would(no, 4), INVALID);
            due(x.would(no, 10), INVALID);
        }
        due(x.would(0, 10), 0);
        due(x.would(1, 17), 0);
        x.stop(0);
        for (int what : out) {
            due(x.would(0, what), INVALID);
        }
        due(x.would(0, 0), NOT_POSSIBLE);
        due(x.would(1, 17), NOT_POSSIBLE);
    }

    // 16: "NOT_FOUND for 4 if there would be no record."
    static void wouldFindNoRecord() {
        SealedGroups x = new SealedGroups();
        due(x.would(0, 4), NOT_FOUND);
        due(x.would(1, 4), NOT_FOUND);
        x.begin(0);
        due(x.would(0, 4), NOT_FOUND);
        x.force();
        due(x.would(0, 4), 1);
        due(x.would(1, 4), NOT_FOUND);
        due(x.would(1, 3), 0);
    }

    // 16: "Tells what a stop and a restart now would bring."
    static void wouldTellsWhatTheStopAndTheRestartBring() {
        String[] texts = {"", "b0;w0,0,1;o0;w0,7,2;", "b0;w0,0,1;c;w0,7,2;w0,0,3;", "b0;w0,0,1;s0;b1;w1,0,2;o0;t1;"};
        for (String text : texts) {
            for (int torn = 0; torn < 2; torn++) {
                SealedGroups x = after(text);
                int lost = x.would(torn, 0);
                int again = x.would(torn, 1);
                int taken = x.would(torn, 2);
                int[] values = new int[8];
                for (int page = 0; page < 8; page++) {
                    values[page] = x.would(torn, 10 + page);
                }
                due(x.count(10), 0);
                due(x.count(7), 0);
                due(x.stop(torn), lost);
                int before = x.count(2);
                due(x.restart(), again);
                int kind3 = 0;
                for (int record = before + 1; record <= x.count(2); record++) {
                    kind3 += x.recordOf(record, 0) == 3 ? 1 : 0;
                }
                due(kind3, taken);
                for (int page = 0; page < 8; page++) {
                    due(x.pageOf(page, 0), values[page]);
                }
            }
        }
    }

    // 17: "INVALID_ARGUMENT if what is out of range."
    static void countOutOfRange() {
        SealedGroups x = new SealedGroups();
        due(x.count(-1), INVALID);
        due(x.count(13), INVALID);
        for (int far : FAR) {
            due(x.count(far), INVALID);
        }
        due(x.count(0), 0);
        due(x.count(12), 0);
    }

    // 17: "1: the number of the first of them (0 if there is none); 2: the number of the last of them (0 if there is
    // none); 3: forced ones"
    static void countOfRecords() {
        SealedGroups x = new SealedGroups();
        for (int what = 0; what < 4; what++) {
            due(x.count(what), 0);
        }
        played(x, "b0;", 1);
        int[] one = {1, 1, 1, 0};
        for (int what = 0; what < 4; what++) {
            due(x.count(what), one[what]);
        }
        played(x, "s0;c;b0;", 3);
        x.dropRecords();
        int[] two = {2, 3, 4, 1};
        for (int what = 0; what < 4; what++) {
            due(x.count(what), two[what]);
        }
        x.stop(0);
        int[] left = {1, 3, 3, 1};
        for (int what = 0; what < 4; what++) {
            due(x.count(what), left[what]);
        }
        x = after("b0;");
        x.stop(0);
        for (int what = 0; what < 4; what++) {
            due(x.count(what), 0);
        }
    }

    // 17: "4: open groups, as a set; 5: pages in the cache, as a set; 6: dirty pages, as a set"
    static void countOfSets() {
        SealedGroups x = after("b0;b3;w0,0,1;w3,7,1;o0;");
        due(x.count(4), 9);
        due(x.count(5), 129);
        due(x.count(6), 128);
        x = after("b0;b1;b2;b3;w0,0,1;w0,1,1;w0,2,1;w0,3,1;w0,4,1;w0,5,1;w0,6,1;w0,7,1;");
        due(x.count(4), 15);
        due(x.count(5), 255);
        due(x.count(6), 255);
    }

    // 17: "8: the latest checkpoint that there is (0 if there is none)"
    static void countOfTheLatestCheckpoint() {
        SealedGroups x = after("b0;");
        due(x.count(8), 0);
        played(x, "c;c;b1;", 3);
        due(x.count(8), 3);
        x.stop(1);
        due(x.count(8), 3);
        x.undo();
        x.undo();
        due(x.count(8), 0);
    }

    // 17: "9: how many records can be dropped by the latest checkpoint, also told while the store is stopped (0 if none
    // can)"
    static void countOfWhatCanBeDropped() {
        SealedGroups x = after("b0;s0;");
        due(x.count(9), 0);
        played(x, "c;", 1);
        due(x.count(9), 2);
        x.stop(1);
        due(x.count(9), 2);
        x.restart();
        due(x.count(9), 2);
        x.dropRecords();
        due(x.count(9), 0);
        x = after("b0;c;");
        due(x.count(9), 0);
        x.stop(0);
        due(x.count(9), 0);
    }

    // 17: "7: 1 if the store is stopped, otherwise 0"; "10: records that were done again so far"
    static void countOfStopsAndOfWhatWasDoneAgain() {
        SealedGroups x = after("b0;w0,0,1;w0,1,1;s0;");
        for (int i = 1; i <= 3; i++) {
            due(x.count(7), 0);
            x.stop(0);
            due(x.count(7), 1);
            due(x.count(10), 2 * i - 2);
            x.restart();
            due(x.count(10), 2 * i);
        }
        due(x.would(0, 1), 2);
        due(x.count(10), 6);
    }

    // 17: "11: states in the history; 12: the length of the text"
    static void countOfStatesAndOfTheText() {
        SealedGroups x = new SealedGroups();
        for (int i = 1; i <= 6; i++) {
            x.force();
            x.type('!');
            due(x.count(11), Math.min(4, i));
            due(x.count(12), i);
        }
    }

    // 18: "Returns the number of states that are left in the history; NOT_POSSIBLE if it is empty."
    static void undoDownToTheEmptyHistory() {
        SealedGroups x = new SealedGroups();
        due(x.undo(), NOT_POSSIBLE);
        due(x.begin(0), 1);
        due(x.undo(), 0);
        due(x.undo(), NOT_POSSIBLE);
        due(x.count(0), 0);
        due(x.begin(0), 1);
        due(x.begin(0), NOT_POSSIBLE);
        due(x.undo(), 0);
    }

    // 18: "Restores the latest state of the history, which is removed from it."
    static void undoBringsTheJournalBack() {
        SealedGroups x = after("b0;w0,0,1;s0;o0;c;c;");
        String before = seen(x).replaceFirst(" count 11=\\d+", "");
        x = after("b0;w0,0,1;s0;o0;c;c;");
        due(x.dropRecords(), 4);
        played(x, "b3;w3,5,5;", 2);
        x.stop(1);
        due(x.undo(), 3);
        due(x.undo(), 2);
        due(x.undo(), 1);
        x.clearText();
        due("all that can be seen", seen(x).replaceFirst(" count 11=\\d+", ""), before);
    }
}
