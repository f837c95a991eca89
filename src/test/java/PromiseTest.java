/** Each promise with ordinary inputs, its edges and wrong inputs. */
public final class PromiseTest extends Checks {
    public static void main(String[] args) {
        runAll(PromiseTest.class);
    }

    private static void newObject() {
        SealedGroups x = new SealedGroups();
        for (int page = 0; page < 8; page++) {
            for (int what = 0; what < 6; what++) {
                due("pageOf " + page + " " + what, x.pageOf(page, what), 0);
            }
        }
        for (int what = 0; what < 13; what++) {
            due("count " + what, x.count(what), 0);
        }
        for (int group = 0; group < 4; group++) {
            due("groupOf " + group, x.groupOf(group, 0), 0);
        }
        due("recordOf", x.recordOf(1, 0), NOT_FOUND);
        due("INVALID_ARGUMENT", SealedGroups.INVALID_ARGUMENT, INVALID);
        due("NOT_POSSIBLE", SealedGroups.NOT_POSSIBLE, NOT_POSSIBLE);
        due("LIMIT_REACHED", SealedGroups.LIMIT_REACHED, LIMIT);
        due("NOT_FOUND", SealedGroups.NOT_FOUND, NOT_FOUND);
    }

    private static void begin() {
        SealedGroups x = new SealedGroups();
        due("begin -1", x.begin(-1), INVALID);
        due("begin 4", x.begin(4), INVALID);
        due("begin 3", x.begin(3), 1);
        due("begin 0", x.begin(0), 2);
        due("begin 3 again", x.begin(3), NOT_POSSIBLE);
        due("open", x.count(4), 9);
        for (int i = 3; i <= 60; i++) {
            x.checkpoint();
        }
        due("begin at 60", x.begin(1), LIMIT);
        due("begin open at 60", x.begin(3), NOT_POSSIBLE);
        due("begin 4 at 60", x.begin(4), INVALID);
        due("records", x.count(0), 60);
        x.stop(0);
        due("begin while stopped", x.begin(1), NOT_POSSIBLE);
        due("begin -1 while stopped", x.begin(-1), INVALID);
    }

    private static void write() {
        SealedGroups x = new SealedGroups();
        x.begin(0);
        x.begin(1);
        due("write", x.write(0, 7, 99), 0);
        due("write again", x.write(0, 7, 0), 99);
        due("write held", x.write(1, 7, 1), NOT_POSSIBLE);
        due("write closed", x.write(2, 6, 1), NOT_POSSIBLE);
        due("group -1", x.write(-1, 0, 0), INVALID);
        due("group 4", x.write(4, 0, 0), INVALID);
        due("page -1", x.write(0, -1, 0), INVALID);
        due("page 8", x.write(0, 8, 0), INVALID);
        due("value -1", x.write(0, 0, -1), INVALID);
        due("value 100 of closed", x.write(2, 0, 100), INVALID);
        due("mark", x.pageOf(7, 1), 4);
        due("disk mark", x.pageOf(7, 3), 0);
        due("in the cache", x.pageOf(7, 4), 1);
        due("forced", x.count(3), 0);
        x.settle(0);
        due("write after settling", x.write(1, 7, 5), 0);
        while (x.count(0) < 60) {
            x.write(1, 1, 1);
        }
        due("write at 60", x.write(1, 2, 1), LIMIT);
        due("page 2 as before", x.pageOf(2, 4), 0);
        due("write closed at 60", x.write(0, 2, 1), NOT_POSSIBLE);
        x.stop(0);
        due("write while stopped", x.write(1, 1, 1), NOT_POSSIBLE);
    }

    private static void settle() {
        SealedGroups x = new SealedGroups();
        x.begin(2);
        due("settle nothing", x.settle(2), 0);
        due("settle closed", x.settle(2), NOT_POSSIBLE);
        due("settle -1", x.settle(-1), INVALID);
        due("settle 4", x.settle(4), INVALID);
        x.begin(2);
        x.write(2, 1, 1);
        x.write(2, 1, 2);
        x.write(2, 3, 3);
        due("forced ahead", x.count(3), 2);
        due("settle", x.settle(2), 2);
        due("forced", x.count(3), 7);
        due("kind", x.recordOf(7, 0), 2);
        due("not open", x.groupOf(2, 0), 0);
        x.begin(2);
        due("holds none at first", x.settle(2), 0);
        x.begin(0);
        while (x.count(0) < 60) {
            x.write(0, 0, 1);
        }
        due("settle at 60", x.settle(0), LIMIT);
        due("still open", x.count(4), 1);
        due("settle closed at 60", x.settle(1), NOT_POSSIBLE);
        x.stop(0);
        due("settle while stopped", x.settle(0), NOT_POSSIBLE);
    }

    private static void takeBack() {
        SealedGroups x = new SealedGroups();
        due("closed", x.takeBack(0), NOT_POSSIBLE);
        due("-1", x.takeBack(-1), INVALID);
        due("4", x.takeBack(4), INVALID);
        x.begin(0);
        x.write(0, 1, 10);
        x.begin(1);
        x.write(1, 2, 30);
        x.write(0, 1, 20);
        due("takeBack", x.takeBack(0), 2);
        due("first taken back", x.recordOf(6, 8), 5);
        due("its old value", x.recordOf(6, 3), 20);
        due("its new value", x.recordOf(6, 4), 10);
        due("second taken back", x.recordOf(7, 8), 2);
        due("its old value", x.recordOf(7, 3), 10);
        due("its new value", x.recordOf(7, 4), 0);
        due("ended", x.recordOf(8, 0), 4);
        due("nothing more", x.recordOf(9, 0), NOT_FOUND);
        due("forced", x.count(3), 0);
        due("mark", x.pageOf(1, 1), 7);
        due("start", x.pageOf(1, 6), 2);
        due("others as before", x.pageOf(2, 0), 30);
        due("open", x.count(4), 2);
        x.begin(0);
        due("nothing to take back", x.takeBack(0), 0);
        x.begin(0);
        x.write(0, 1, 1);
        x.write(0, 1, 2);
        while (x.count(0) < 58) {
            x.checkpoint();
        }
        due("61 records", x.takeBack(0), LIMIT);
        due("as before", x.pageOf(1, 0), 2);
        x.stop(0);
        due("while stopped", x.takeBack(0), NOT_POSSIBLE);

        x = new SealedGroups();
        x.begin(0);
        x.write(0, 1, 1);
        x.write(0, 1, 2);
        while (x.count(0) < 57) {
            x.checkpoint();
        }
        due("60 records", x.takeBack(0), 2);
        due("records", x.count(0), 60);
    }

    private static void writeOut() {
        SealedGroups x = new SealedGroups();
        due("-1", x.writeOut(-1), INVALID);
        due("8", x.writeOut(8), INVALID);
        due("not in the cache", x.writeOut(0), NOT_POSSIBLE);
        x.begin(0);
        x.write(0, 0, 5);
        x.write(0, 1, 6);
        x.write(0, 2, 7);
        due("writeOut", x.writeOut(1), 3);
        due("forced", x.count(3), 3);
        due("on the disk", x.pageOf(1, 2), 6);
        due("mark on the disk", x.pageOf(1, 3), 3);
        due("still in the cache", x.pageOf(1, 4), 1);
        due("not dirty", x.pageOf(1, 5), 0);
        due("no start", x.pageOf(1, 6), NOT_FOUND);
        due("again", x.writeOut(1), NOT_POSSIBLE);
        due("forced already", x.writeOut(0), 0);
        x.write(0, 1, 8);
        due("dirty from now on", x.pageOf(1, 6), 5);
        x.stop(0);
        due("while stopped", x.writeOut(2), NOT_POSSIBLE);
        due("8 while stopped", x.writeOut(8), INVALID);
    }

    private static void dropOut() {
        SealedGroups x = new SealedGroups();
        due("-1", x.dropOut(-1), INVALID);
        due("8", x.dropOut(8), INVALID);
        due("not there", x.dropOut(0), NOT_POSSIBLE);
        x.begin(0);
        x.write(0, 0, 5);
        x.write(0, 1, 6);
        due("dirty", x.dropOut(0), NOT_POSSIBLE);
        x.writeOut(0);
        due("dropOut", x.dropOut(0), 1);
        due("its value", x.pageOf(0, 0), 5);
        due("its mark", x.pageOf(0, 1), 2);
        due("not there", x.dropOut(0), NOT_POSSIBLE);
        x.writeOut(1);
        due("dropOut", x.dropOut(1), 0);
        due("held still", x.pageOf(0, 7), 0);
        due("comes in by a write", x.write(0, 0, 9), 5);
        x.stop(0);
        due("while stopped", x.dropOut(0), NOT_POSSIBLE);
    }

    private static void checkpoint() {
        SealedGroups x = new SealedGroups();
        x.begin(1);
        x.write(1, 4, 1);
        x.begin(3);
        x.write(3, 5, 2);
        x.writeOut(5);
        due("checkpoint", x.checkpoint(), 5);
        due("kind", x.recordOf(5, 0), 5);
        due("open groups", x.recordOf(5, 6), 10);
        due("dirty pages", x.recordOf(5, 7), 16);
        due("forced", x.count(3), 5);
        due("still open", x.count(4), 10);
        due("still dirty", x.count(6), 16);
        x.settle(1);
        due("next", x.checkpoint(), 7);
        due("open groups now", x.recordOf(7, 6), 8);
        due("open groups then", x.recordOf(5, 6), 10);
        while (x.count(0) < 60) {
            x.checkpoint();
        }
        due("at 60", x.checkpoint(), LIMIT);
        due("latest", x.count(8), 60);
        x.stop(0);
        due("while stopped", x.checkpoint(), NOT_POSSIBLE);
    }

    private static void dropRecords() {
        SealedGroups x = new SealedGroups();
        x.begin(0);
        due("no checkpoint", x.dropRecords(), NOT_POSSIBLE);
        x.settle(0);
        x.checkpoint();
        x.checkpoint();
        due("droppable", x.count(9), 3);
        due("dropRecords", x.dropRecords(), 3);
        due("gone", x.recordOf(3, 0), NOT_FOUND);
        due("kept", x.recordOf(4, 0), 5);
        due("first", x.count(1), 4);
        due("forced", x.count(3), 1);
        due("again", x.dropRecords(), 0);
        due("next number", x.begin(0), 5);
        x.stop(0);
        due("while stopped", x.dropRecords(), NOT_POSSIBLE);
    }

    private static void dropLimits() {
        SealedGroups x = new SealedGroups();
        x.begin(0);
        x.settle(0);
        x.begin(1);
        x.write(1, 2, 3);
        x.checkpoint();
        due("up to the begin of an open group", x.count(9), 2);
        x.settle(1);
        due("as at the checkpoint", x.dropRecords(), 2);
        x.checkpoint();
        due("up to the start of a dirty page", x.dropRecords(), 1);
        x.begin(0);
        x.write(0, 2, 4);
        x.settle(0);
        x.checkpoint();
        due("the start stays", x.count(9), 0);
        x.writeOut(2);
        due("still as at the checkpoint", x.dropRecords(), 0);
        x.checkpoint();
        due("all", x.dropRecords(), 8);
        due("one record", x.count(0), 1);
    }

    private static void force() {
        SealedGroups x = new SealedGroups();
        due("nothing", x.force(), 0);
        x.begin(0);
        x.write(0, 1, 1);
        due("forces", x.force(), 2);
        due("all are", x.force(), 0);
        x.write(0, 1, 1);
        x.write(0, 1, 1);
        due("the rest", x.force(), 2);
        due("forced", x.count(3), 4);
        x.stop(0);
        due("while stopped", x.force(), NOT_POSSIBLE);
    }

    private static void stop() {
        SealedGroups x = new SealedGroups();
        due("-1", x.stop(-1), INVALID);
        due("2", x.stop(2), INVALID);
        x.begin(0);
        x.write(0, 1, 5);
        x.writeOut(1);
        x.write(0, 1, 6);
        x.begin(1);
        due("stop", x.stop(0), 2);
        due("records", x.count(0), 2);
        due("cache", x.count(5), 0);
        due("dirty", x.count(6), 0);
        due("open", x.count(4), 0);
        due("held", x.pageOf(1, 7), NOT_FOUND);
        due("as on the disk", x.pageOf(1, 0), 5);
        due("again", x.stop(1), NOT_POSSIBLE);
        due("2 while stopped", x.stop(2), INVALID);
        x.restart();
        due("number behind the stop", x.begin(1), 5);
    }

    private static void tornStop() {
        SealedGroups x = new SealedGroups();
        x.begin(0);
        due("nothing is forced", x.stop(1), 1);
        due("none there", x.count(2), 0);
        x.restart();
        due("from 1 on again", x.begin(0), 1);
        x.write(0, 1, 5);
        x.force();
        x.write(0, 1, 6);
        due("a torn write", x.stop(1), 2);
        due("records", x.count(0), 1);

        x = new SealedGroups();
        x.begin(0);
        x.write(0, 1, 5);
        x.writeOut(1);
        due("not at a mark", x.stop(1), 0);
        x = new SealedGroups();
        x.begin(0);
        x.write(0, 1, 5);
        x.writeOut(1);
        x.write(0, 2, 5);
        x.force();
        due("above all marks", x.stop(1), 1);
        x = new SealedGroups();
        x.begin(0);
        x.settle(0);
        due("no settling", x.stop(1), 0);
        x = new SealedGroups();
        x.begin(0);
        x.checkpoint();
        due("no checkpoint", x.stop(1), 0);
        x = new SealedGroups();
        x.begin(0);
        x.write(0, 0, 1);
        x.takeBack(0);
        x.force();
        due("an end", x.stop(1), 1);
        x = new SealedGroups();
        x.begin(0);
        x.force();
        due("a begin", x.stop(1), 1);
        due("no record", x.count(0), 0);
        due("none forced", x.count(3), 0);
    }

    private static void restart() {
        SealedGroups x = new SealedGroups();
        due("not stopped", x.restart(), NOT_POSSIBLE);
        x.begin(0);
        x.write(0, 1, 5);
        x.write(0, 2, 6);
        x.write(0, 1, 7);
        x.settle(0);
        x.stop(0);
        due("done again", x.restart(), 3);
        due("not stopped", x.restart(), NOT_POSSIBLE);
        due("value", x.pageOf(1, 0), 7);
        due("mark", x.pageOf(1, 1), 4);
        due("start", x.pageOf(1, 6), 2);
        due("not on the disk", x.pageOf(1, 2), 0);
        x.writeOut(1);
        x.stop(0);
        due("the mark is looked at", x.restart(), 1);
        due("not in the cache", x.pageOf(1, 4), 0);
        due("done again so far", x.count(10), 4);
        x.writeOut(2);
        x.checkpoint();
        x.begin(1);
        x.write(1, 3, 9);
        x.settle(1);
        x.stop(0);
        due("behind the checkpoint", x.restart(), 1);
        due("value", x.pageOf(3, 0), 9);
        x.checkpoint();
        x.stop(0);
        due("dirty at the checkpoint", x.restart(), 1);
    }

    private static void restartOfLosers() {
        SealedGroups x = new SealedGroups();
        x.begin(0);
        x.write(0, 0, 10);
        x.begin(1);
        x.write(1, 1, 20);
        x.checkpoint();
        x.write(0, 2, 30);
        x.write(1, 3, 40);
        x.force();
        x.stop(0);
        due("done again", x.restart(), 4);
        due("highest first", x.recordOf(8, 8), 7);
        due("of any group", x.recordOf(9, 8), 6);
        due("ahead of the checkpoint too", x.recordOf(10, 8), 4);
        due("the later begin", x.recordOf(11, 0), 4);
        due("its group", x.recordOf(11, 1), 1);
        due("then", x.recordOf(12, 8), 2);
        due("the first begin", x.recordOf(13, 1), 0);
        due("forced to the end", x.count(3), 13);
        due("none open", x.count(4), 0);
        due("value", x.pageOf(0, 0), 0);
        x.begin(0);
        x.write(0, 0, 50);
        x.settle(0);
        x.begin(0);
        x.write(0, 0, 60);
        x.writeOut(0);
        x.stop(0);
        x.restart();
        due("only since it began last", x.pageOf(0, 0), 50);
        due("start by taking back", x.pageOf(0, 6), 19);
    }

    /** A page written out in the middle of a takeBack keeps a part of it. */
    private static void restartTakesRestUp() {
        SealedGroups x = new SealedGroups();
        x.begin(0);
        x.write(0, 0, 1);
        x.write(0, 1, 2);
        x.write(0, 2, 3);
        x.takeBack(0);
        x.writeOut(1);
        due("forced", x.count(3), 6);
        due("lost", x.stop(0), 2);
        due("would take one back", x.restart(), 3);
        due("the rest alone", x.recordOf(7, 8), 2);
        due("then the end", x.recordOf(8, 0), 4);
        due("nothing more", x.count(2), 8);
        due("torn end", x.stop(1), 1);
        x.restart();
        due("the end again", x.recordOf(8, 0), 4);
        due("nothing more", x.count(2), 8);
    }

    private static void restartBeyondLimit() {
        SealedGroups x = new SealedGroups();
        x.begin(0);
        for (int i = 0; i < 59; i++) {
            x.write(0, i % 8, i + 1);
        }
        x.force();
        x.stop(0);
        due("done again", x.restart(), 59);
        due("records", x.count(0), 120);
        due("begin", x.begin(0), LIMIT);
        due("checkpoint", x.checkpoint(), LIMIT);
        due("force", x.force(), 0);
        x.stop(1);
        due("done again", x.restart(), 118);
        due("records", x.count(0), 120);
        for (int page = 0; page < 8; page++) {
            due("value", x.pageOf(page, 0), 0);
        }
    }

    private static void pageOf() {
        SealedGroups x = new SealedGroups();
        due("page -1", x.pageOf(-1, 0), INVALID);
        due("page 8", x.pageOf(8, 0), INVALID);
        due("what -1", x.pageOf(0, -1), INVALID);
        due("what 9", x.pageOf(0, 9), INVALID);
        x.begin(2);
        x.write(2, 6, 11);
        x.writeOut(6);
        x.write(2, 6, 22);
        x.write(2, 6, 33);
        int[] want = {33, 4, 11, 2, 1, 1, 3, 2, NOT_FOUND};
        for (int what = 0; what < 9; what++) {
            due("what " + what, x.pageOf(6, what), want[what]);
        }
        x.settle(2);
        due("held by none", x.pageOf(6, 7), NOT_FOUND);
    }

    private static void settledValue() {
        SealedGroups x = new SealedGroups();
        x.begin(0);
        x.write(0, 1, 10);
        x.write(0, 1, 11);
        due("not settled", x.pageOf(1, 8), NOT_FOUND);
        x.settle(0);
        due("settled", x.pageOf(1, 8), 11);
        due("another page", x.pageOf(2, 8), NOT_FOUND);
        x.begin(0);
        x.write(0, 1, 12);
        x.takeBack(0);
        x.begin(0);
        x.settle(0);
        due("taken back before", x.pageOf(1, 8), 11);
        x.begin(1);
        x.write(1, 1, 13);
        due("another group open", x.pageOf(1, 8), 11);
        x.begin(0);
        x.settle(0);
        due("another group settled", x.pageOf(1, 8), 11);
        x.stop(0);
        due("while stopped", x.pageOf(1, 8), 11);
    }

    private static void recordOf() {
        SealedGroups x = new SealedGroups();
        x.begin(3);
        x.write(3, 5, 7);
        x.checkpoint();
        x.write(3, 5, 8);
        x.takeBack(3);
        x.begin(1);
        x.settle(1);
        x.begin(1);
        int none = NOT_FOUND;
        int[][] want = {
            {0, 3, none, none, none, 1, none, none, none},
            {1, 3, 5, 0, 7, 1, none, none, none},
            {5, none, none, none, none, 1, 8, 32, none},
            {1, 3, 5, 7, 8, 1, none, none, none},
            {3, 3, 5, 8, 7, 1, none, none, 4},
            {3, 3, 5, 7, 0, 1, none, none, 2},
            {4, 3, none, none, none, 1, none, none, none},
            {0, 1, none, none, none, 1, none, none, none},
            {2, 1, none, none, none, 1, none, none, none},
            {0, 1, none, none, none, 0, none, none, none},
            {none, none, none, none, none, none, none, none, none},
        };
        for (int record = 1; record <= want.length; record++) {
            for (int what = 0; what < 9; what++) {
                due("recordOf " + record + " " + what, x.recordOf(record, what), want[record - 1][what]);
            }
        }
        due("record 0", x.recordOf(0, 0), INVALID);
        due("record -1", x.recordOf(-1, 0), INVALID);
        due("far record", x.recordOf(Integer.MAX_VALUE, 0), NOT_FOUND);
        due("what -1", x.recordOf(1, -1), INVALID);
        due("what 9", x.recordOf(1, 9), INVALID);
        x.stop(0);
        due("lost", x.recordOf(10, 0), NOT_FOUND);
        due("there", x.recordOf(9, 0), 2);
    }

    private static void groupOf() {
        SealedGroups x = new SealedGroups();
        due("group -1", x.groupOf(-1, 0), INVALID);
        due("group 4", x.groupOf(4, 0), INVALID);
        due("what -1", x.groupOf(0, -1), INVALID);
        due("what 4", x.groupOf(0, 4), INVALID);
        for (int what = 1; what < 4; what++) {
            due("not open", x.groupOf(0, what), NOT_FOUND);
        }
        x.begin(1);
        x.begin(0);
        x.write(0, 7, 1);
        x.write(0, 7, 2);
        x.write(0, 0, 2);
        int[] want = {1, 2, 3, 129};
        for (int what = 0; what < 4; what++) {
            due("what " + what, x.groupOf(0, what), want[what]);
        }
        x.settle(0);
        due("not open", x.groupOf(0, 0), 0);
        due("not open", x.groupOf(0, 3), NOT_FOUND);
        x.begin(0);
        due("writes since", x.groupOf(0, 2), 0);
        due("held since", x.groupOf(0, 3), 0);
        x.stop(0);
        due("while stopped", x.groupOf(1, 0), 0);
        due("while stopped", x.groupOf(1, 1), NOT_FOUND);
    }

    private static void would() {
        SealedGroups x = new SealedGroups();
        int[] out = {-1, 5, 6, 9, 18, Integer.MAX_VALUE, Integer.MIN_VALUE};
        for (int what : out) {
            due("what " + what, x.would(0, what), INVALID);
        }
        due("torn -1", x.would(-1, 0), INVALID);
        due("torn 2", x.would(2, 0), INVALID);
        due("no record", x.would(0, 4), NOT_FOUND);
        x.begin(2);
        x.write(2, 3, 44);
        due("lost", x.would(0, 0), 2);
        due("no record then", x.would(0, 4), NOT_FOUND);
        x.force();
        int[] plain = {0, 1, 1, 4, 1};
        int[] torn = {1, 0, 0, 4, 1};
        for (int what = 0; what < 5; what++) {
            due("would 0 " + what, x.would(0, what), plain[what]);
            due("would 1 " + what, x.would(1, what), torn[what]);
        }
        due("value", x.would(0, 13), 0);
        due("value now", x.pageOf(3, 0), 44);
        x.settle(2);
        due("settled value", x.would(1, 13), 44);
        due("no loser", x.would(1, 3), 0);
        x.checkpoint();
        due("from the checkpoint", x.would(0, 4), 4);
        due("from its page's number", x.would(0, 1), 1);
        due("nothing changed", x.count(7), 0);
        due("nor done again", x.count(10), 0);
        due("nor recorded", x.count(11), 4);
        x.stop(0);
        due("while stopped", x.would(0, 0), NOT_POSSIBLE);
        due("5 while stopped", x.would(0, 5), INVALID);
    }

    private static void count() {
        SealedGroups x = new SealedGroups();
        due("-1", x.count(-1), INVALID);
        due("13", x.count(13), INVALID);
        x.begin(0);
        x.settle(0);
        x.begin(2);
        x.begin(3);
        x.write(2, 0, 1);
        x.write(3, 7, 2);
        x.writeOut(0);
        x.checkpoint();
        x.write(3, 6, 2);
        typeAll(x, "b;");
        int[] want = {8, 1, 8, 7, 12, 193, 192, 0, 7, 2, 0, 4, 2};
        for (int what = 0; what < 13; what++) {
            due("count " + what, x.count(what), want[what]);
        }
        x.dropRecords();
        int[] then = {6, 3, 8, 5, 12, 193, 192, 0, 7, 0, 0, 4, 2};
        for (int what = 0; what < 13; what++) {
            due("count " + what + " then", x.count(what), then[what]);
        }
        x.undo();
        x.stop(0);
        int[] stopped = {7, 1, 7, 7, 0, 0, 0, 1, 7, 2, 0, 4, 2};
        for (int what = 0; what < 13; what++) {
            due("count " + what + " stopped", x.count(what), stopped[what]);
        }
        x.restart();
        due("done again", x.count(10), 1);
    }

    private static void undo() {
        SealedGroups x = new SealedGroups();
        due("empty", x.undo(), NOT_POSSIBLE);
        x.begin(0);
        x.begin(0);
        x.begin(9);
        due("errors are no changes", x.count(11), 1);
        x.write(0, 1, 5);
        x.writeOut(1);
        typeAll(x, "c;");
        x.checkpoint();
        x.dropOut(1);
        x.force();
        due("4 at most", x.count(11), 4);
        due("undo force", x.undo(), 3);
        due("undo dropOut", x.undo(), 2);
        due("in the cache again", x.count(5), 2);
        due("undo checkpoint", x.undo(), 1);
        due("no checkpoint", x.count(8), 0);
        due("undo writeOut", x.undo(), 0);
        due("dirty again", x.count(6), 2);
        due("disk as before", x.pageOf(1, 3), 0);
        due("the oldest ones are gone", x.undo(), NOT_POSSIBLE);
        due("the text stays", x.count(12), 2);
        x.settle(0);
        x.stop(0);
        x.restart();
        due("done again", x.count(10), 1);
        due("undo restart", x.undo(), 2);
        due("stopped", x.count(7), 1);
        due("done again before", x.count(10), 0);
        due("undo while stopped", x.undo(), 1);
        due("not stopped", x.count(7), 0);
        due("cache", x.count(5), 2);
        x.undo();
        due("open", x.groupOf(0, 3), 2);
    }

    private static void type() {
        SealedGroups x = new SealedGroups();
        due("31", x.type(31), INVALID);
        due("127", x.type(127), INVALID);
        due("32", x.type(32), 1);
        due("126", x.type(126), 2);
        for (int i = 3; i <= 80; i++) {
            due("type", x.type('c'), i);
        }
        due("full", x.type('c'), LIMIT);
        due("31 when full", x.type(31), INVALID);
        due("length", x.count(12), 80);
        due("no change", x.count(11), 0);
    }

    private static void clearText() {
        SealedGroups x = new SealedGroups();
        due("empty", x.clearText(), 0);
        typeAll(x, "b0;");
        due("clearText", x.clearText(), 3);
        due("length", x.count(12), 0);
        due("no change", x.count(11), 0);
        due("no fault", x.fault(0), NOT_FOUND);
        x.stop(0);
        x.type('c');
        due("while stopped", x.clearText(), 1);
    }

    private static void fault() {
        SealedGroups x = new SealedGroups();
        due("-1", x.fault(-1), INVALID);
        due("3", x.fault(3), INVALID);
        for (int what = 0; what < 3; what++) {
            due("empty", x.fault(what), NOT_FOUND);
        }
        typeAll(x, "b0;w0,1,07;w0,2,99;o1;t0;b3;w3,7,0;s3;c;x;r;");
        for (int what = 0; what < 3; what++) {
            due("none", x.fault(what), NOT_FOUND);
        }
        faultIs(x, "c;b4;", 2, 2, NOT_FOUND);
        faultIs(x, "b0;w0,8,1;", 3, 2, NOT_FOUND);
        faultIs(x, "w9,0,1;", 0, 2, NOT_FOUND);
        faultIs(x, "s4;", 0, 2, NOT_FOUND);
        faultIs(x, "t7;", 0, 2, NOT_FOUND);
        faultIs(x, "o8;", 0, 2, NOT_FOUND);
        faultIs(x, "w0,0,1;", 0, 3, NOT_FOUND);
        faultIs(x, "b0;b0;", 3, 3, NOT_FOUND);
        faultIs(x, "b0;w0,1,1;o1;o1;zzz", 13, 3, NOT_FOUND);
        faultIs(x, "r;", 0, 3, NOT_FOUND);
        faultIs(x, "s0;", 0, 3, NOT_FOUND);
        due("nothing is done", x.count(0), 0);
        due("nothing is recorded", x.count(11), 0);
    }

    private static void faultCauses() {
        SealedGroups x = new SealedGroups();
        faultIs(x, "a0;", 0, 1, 0);
        faultIs(x, ";", 0, 1, 0);
        faultIs(x, " c;", 0, 1, 0);
        faultIs(x, "c; c;", 2, 1, 0);
        faultIs(x, "b", 0, 1, 1);
        faultIs(x, "c", 0, 1, 1);
        faultIs(x, "c0;", 0, 1, 1);
        faultIs(x, "b0", 0, 1, 2);
        faultIs(x, "b00;", 0, 1, 2);
        faultIs(x, "b;", 0, 1, 1);
        faultIs(x, "bx;", 0, 1, 1);
        faultIs(x, "b/;", 0, 1, 1);
        faultIs(x, "b:;", 0, 1, 1);
        faultIs(x, "b9", 0, 1, 2);
        faultIs(x, "b0;w", 3, 1, 1);
        faultIs(x, "b0;w0", 3, 1, 2);
        faultIs(x, "b0;w0;", 3, 1, 2);
        faultIs(x, "b0;w0,", 3, 1, 3);
        faultIs(x, "b0;w0,,", 3, 1, 3);
        faultIs(x, "b0;w0,1;", 3, 1, 4);
        faultIs(x, "b0;w0,12,3;", 3, 1, 4);
        faultIs(x, "b0;w0,1,", 3, 1, 5);
        faultIs(x, "b0;w0,1,;", 3, 1, 5);
        faultIs(x, "b0;w0,1,5", 3, 1, 6);
        faultIs(x, "b0;w0,1,5,", 3, 1, 6);
        faultIs(x, "b0;w0,1,55", 3, 1, 7);
        faultIs(x, "b0;w0,1,555;", 3, 1, 7);
    }

    private static void faultStates() {
        SealedGroups x = new SealedGroups();
        faultIs(x, "x;b0;", 2, 3, NOT_FOUND);
        faultIs(x, "x;b4;", 2, 2, NOT_FOUND);
        faultIs(x, "x;x;", 2, 3, NOT_FOUND);
        x.stop(0);
        faultIs(x, "c;", 0, 3, NOT_FOUND);
        typeAll(x, "r;c;");
        due("r may be first", x.fault(0), NOT_FOUND);
        x.restart();
        while (x.count(0) < 59) {
            x.checkpoint();
        }
        typeAll(x, "c;");
        due("60 records", x.fault(0), NOT_FOUND);
        faultIs(x, "c;c;", 2, 3, NOT_FOUND);
        faultIs(x, "b0;t0;", 3, 3, NOT_FOUND);
    }

    private static void play() {
        SealedGroups x = new SealedGroups();
        due("no orders", x.play(), 0);
        due("one change", x.count(11), 1);
        played(x, "b1;w1,2,05;w1,3,60;s1;", 4);
        due("one change", x.count(11), 2);
        due("the text stays", x.count(12), 22);
        due("value", x.pageOf(2, 0), 5);
        due("value", x.pageOf(3, 0), 60);
        due("settled", x.count(3), 4);
        typeAll(x, "b0;b0;");
        due("fault", x.play(), NOT_POSSIBLE);
        due("nothing is done", x.count(4), 0);
        due("nothing is recorded", x.count(11), 2);
        played(x, "b0;w0,2,6;t0;o3;c;x;", 6);
        due("taken back", x.recordOf(7, 0), 3);
        due("checkpoint", x.count(8), 9);
        due("stopped", x.count(7), 1);
        x.clearText();
        due("no orders while stopped", x.play(), 0);
        played(x, "r;", 1);
        due("done again", x.count(10), 3);
        due("undo", x.undo(), 3);
        x.undo();
        due("undo of 6 orders", x.undo(), 1);
        due("records", x.count(0), 4);
        StringBuilder many = new StringBuilder();
        for (int i = 0; i < 40; i++) {
            many.append("c;");
        }
        played(x, many.toString(), 40);
        due("all 80 characters", x.count(0), 44);
    }
}
