/**
 * A store with a journal: pages, groups of writes, a cache, checkpoints, stops and restarts.
 * ../shared/DOC.md says, as numbered promises, what each call answers.
 */
public final class SealedGroups {
    public static final int INVALID_ARGUMENT = -1000001;
    public static final int NOT_POSSIBLE = -1000002;
    public static final int LIMIT_REACHED = -1000003;
    public static final int NOT_FOUND = -1000004;

    private static final int PAGES = 8;
    private static final int GROUPS = 4;
    private static final int VALUES = 100;
    private static final int MOST_RECORDS = 60;
    // A restart adds at most one record for each of the 60, and none when there are more already.
    private static final int RECORD_ROOM = 128;
    private static final int MOST_STATES = 4;
    // One row more than there are states: a change is prepared there before it is known to succeed.
    private static final int STATE_ROWS = 5;
    private static final int MOST_SIGNS = 80;

    private static final int BEGUN = 0;
    private static final int WRITTEN = 1;
    private static final int SETTLED = 2;
    private static final int UNWRITTEN = 3;
    private static final int ENDED = 4;
    private static final int CHECKPOINT = 5;

    private static final int NO_REASON = 0;
    private static final int BAD_FORM = 1;
    private static final int NO_SUCH_THING = 2;
    private static final int OTHERWISE = 3;

    private final Store now;
    private final Store trial;
    private final Restarter restarter;
    private final History history;
    private final OrderText text;
    private int faultPosition;
    private int faultReason;
    private int ordersDone;

    public SealedGroups() {
        now = new Store();
        trial = new Store();
        restarter = new Restarter();
        history = new History();
        text = new OrderText();
    }

    // ---- groups

    public int begin(int group) {
        history.prepare(now);
        return history.keepUnlessError(now.beginGroup(group));
    }

    public int write(int group, int page, int value) {
        history.prepare(now);
        return history.keepUnlessError(now.writePage(group, page, value));
    }

    public int settle(int group) {
        history.prepare(now);
        return history.keepUnlessError(now.settleGroup(group));
    }

    public int takeBack(int group) {
        history.prepare(now);
        return history.keepUnlessError(now.takeGroupBack(group));
    }

    // ---- pages, journal

    public int writeOut(int page) {
        history.prepare(now);
        return history.keepUnlessError(now.writePageOut(page));
    }

    public int dropOut(int page) {
        history.prepare(now);
        return history.keepUnlessError(now.dropPageOut(page));
    }

    public int checkpoint() {
        history.prepare(now);
        return history.keepUnlessError(now.makeCheckpoint());
    }

    public int dropRecords() {
        history.prepare(now);
        return history.keepUnlessError(now.dropOldRecords());
    }

    public int force() {
        history.prepare(now);
        return history.keepUnlessError(now.forceAll());
    }

    // ---- stops

    public int stop(int torn) {
        history.prepare(now);
        return history.keepUnlessError(now.stopStore(torn));
    }

    public int restart() {
        history.prepare(now);
        return history.keepUnlessError(restarter.run(now));
    }

    // ---- what there is

    public int pageOf(int page, int what) {
        if (page < 0 || page >= PAGES || what < 0 || what > 8) {
            return INVALID_ARGUMENT;
        }
        switch (what) {
            case 7:
                return now.groups.holderOf(page);
            case 8:
                return now.journal.settledValueOf(page);
            default:
                return now.pages.tell(page, what);
        }
    }

    public int recordOf(int record, int what) {
        if (record < 1 || what < 0 || what > 8) {
            return INVALID_ARGUMENT;
        }
        return now.journal.tell(record, what);
    }

    public int groupOf(int group, int what) {
        if (group < 0 || group >= GROUPS || what < 0 || what > 3) {
            return INVALID_ARGUMENT;
        }
        return now.groups.tell(group, what);
    }

    public int would(int torn, int what) {
        boolean ofPage = what >= 10 && what < 10 + PAGES;
        if (torn < 0 || torn > 1 || what < 0 || what > 4 && !ofPage) {
            return INVALID_ARGUMENT;
        }
        if (now.stopped) {
            return NOT_POSSIBLE;
        }
        trial.copyFrom(now);
        int lost = trial.stopStore(torn);
        restarter.run(trial);
        if (ofPage) {
            return trial.pages.valueOf(what - 10);
        }
        return what == 0 ? lost : restarter.tell(what);
    }

    public int count(int what) {
        switch (what) {
            case 4:
                return now.groups.open;
            case 5:
                return now.pages.cached;
            case 6:
                return now.pages.dirty;
            case 7:
                return now.stopped ? 1 : 0;
            case 10:
                return now.doneAgain;
            case 11:
                return history.size;
            case 12:
                return text.length;
            default:
                return now.journal.tellNumber(what);
        }
    }

    public int undo() {
        return history.restoreLatest(now);
    }

    // ---- texts

    public int type(int character) {
        if (character < 32 || character > 126) {
            return INVALID_ARGUMENT;
        }
        return text.append((char) character);
    }

    public int clearText() {
        return text.empty();
    }

    public int fault(int what) {
        if (what < 0 || what > 2) {
            return INVALID_ARGUMENT;
        }
        tryText();
        if (faultReason == NO_REASON || what == 2 && faultReason != BAD_FORM) {
            return NOT_FOUND;
        }
        switch (what) {
            case 0:
                return faultPosition;
            case 1:
                return faultReason;
            default:
                return text.brokenAt;
        }
    }

    public int play() {
        tryText();
        if (faultReason != NO_REASON) {
            return NOT_POSSIBLE;
        }
        history.prepare(now);
        now.copyFrom(trial);
        return history.keepUnlessError(ordersDone);
    }

    /** Does the orders on the trial store, up to the first one that is not possible. */
    private void tryText() {
        trial.copyFrom(now);
        faultReason = NO_REASON;
        ordersDone = 0;
        text.next = 0;
        // An order has two characters at least, so no text has more orders than characters.
        for (int i = 0; i < MOST_SIGNS && text.next < text.length; i++) {
            faultPosition = text.next;
            faultReason = text.readOrder() ? reasonOf(doOrder()) : BAD_FORM;
            if (faultReason != NO_REASON) {
                return;
            }
            ordersDone++;
        }
    }

    private static int reasonOf(int answer) {
        if (answer == INVALID_ARGUMENT) {
            return NO_SUCH_THING;
        }
        return answer < 0 ? OTHERWISE : NO_REASON;
    }

    private int doOrder() {
        switch (text.letter) {
            case 'b':
                return trial.beginGroup(text.number);
            case 'w':
                return trial.writePage(text.number, text.page, text.value);
            case 's':
                return trial.settleGroup(text.number);
            case 't':
                return trial.takeGroupBack(text.number);
            case 'o':
                return trial.writePageOut(text.number);
            case 'c':
                return trial.makeCheckpoint();
            case 'x':
                return trial.stopStore(0);
            default:
                return restarter.run(trial);
        }
    }

    /** The pages on the disk and in the cache. */
    private static final class Pages {
        private final int[] diskValues = new int[PAGES];
        private final int[] diskMarks = new int[PAGES];
        private final int[] values = new int[PAGES];
        private final int[] marks = new int[PAGES];
        private final int[] starts = new int[PAGES];
        private int cached;
        private int dirty;

        void copyFrom(Pages other) {
            System.arraycopy(other.diskValues, 0, diskValues, 0, PAGES);
            System.arraycopy(other.diskMarks, 0, diskMarks, 0, PAGES);
            System.arraycopy(other.values, 0, values, 0, PAGES);
            System.arraycopy(other.marks, 0, marks, 0, PAGES);
            System.arraycopy(other.starts, 0, starts, 0, PAGES);
            cached = other.cached;
            dirty = other.dirty;
        }

        int valueOf(int page) {
            if (page < 0 || page >= PAGES) {
                return 0;
            }
            return (cached >> page & 1) == 1 ? values[page] : diskValues[page];
        }

        int markOf(int page) {
            if (page < 0 || page >= PAGES) {
                return 0;
            }
            return (cached >> page & 1) == 1 ? marks[page] : diskMarks[page];
        }

        int startOf(int page) {
            return page >= 0 && page < PAGES && (dirty >> page & 1) == 1 ? starts[page] : NOT_FOUND;
        }

        /** A mark that is put is always above that on the disk, so the page is dirty then. */
        void put(int page, int value, int mark) {
            if (page < 0 || page >= PAGES) {
                return;
            }
            int bit = 1 << page;
            if ((dirty & bit) == 0) {
                starts[page] = mark;
            }
            values[page] = value;
            marks[page] = mark;
            cached |= bit;
            dirty |= bit;
        }

        void toDisk(int page) {
            if (page < 0 || page >= PAGES) {
                return;
            }
            diskValues[page] = values[page];
            diskMarks[page] = marks[page];
            dirty &= ~(1 << page);
        }

        void emptyCache() {
            cached = 0;
            dirty = 0;
        }

        int highestDiskMark() {
            int highest = 0;
            for (int page = 0; page < PAGES; page++) {
                highest = Math.max(highest, diskMarks[page]);
            }
            return highest;
        }

        int tell(int page, int what) {
            if (page < 0 || page >= PAGES) {
                return INVALID_ARGUMENT;
            }
            switch (what) {
                case 0:
                    return valueOf(page);
                case 1:
                    return markOf(page);
                case 2:
                    return diskValues[page];
                case 3:
                    return diskMarks[page];
                case 4:
                    return cached >> page & 1;
                case 5:
                    return dirty >> page & 1;
                default:
                    return startOf(page);
            }
        }
    }

    /** The groups that are open, and what they hold. */
    private static final class Groups {
        private final int[] begins = new int[GROUPS];
        private final int[] writes = new int[GROUPS];
        private final int[] held = new int[GROUPS];
        private int open;

        void copyFrom(Groups other) {
            System.arraycopy(other.begins, 0, begins, 0, GROUPS);
            System.arraycopy(other.writes, 0, writes, 0, GROUPS);
            System.arraycopy(other.held, 0, held, 0, GROUPS);
            open = other.open;
        }

        boolean isOpen(int group) {
            return group >= 0 && group < GROUPS && (open >> group & 1) == 1;
        }

        void enter(int group, int record) {
            if (group < 0 || group >= GROUPS) {
                return;
            }
            begins[group] = record;
            writes[group] = 0;
            held[group] = 0;
            open |= 1 << group;
        }

        void hold(int group, int page) {
            if (group < 0 || group >= GROUPS) {
                return;
            }
            writes[group]++;
            held[group] |= 1 << page;
        }

        void leave(int group) {
            if (group >= 0 && group < GROUPS) {
                open &= ~(1 << group);
            }
        }

        int holderOf(int page) {
            for (int group = 0; group < GROUPS; group++) {
                if ((open >> group & 1) == 1 && (held[group] >> page & 1) == 1) {
                    return group;
                }
            }
            return NOT_FOUND;
        }

        int beginOf(int group) {
            return group >= 0 && group < GROUPS ? begins[group] : 0;
        }

        int writesOf(int group) {
            return group >= 0 && group < GROUPS ? writes[group] : 0;
        }

        int heldBy(int group) {
            return group >= 0 && group < GROUPS ? held[group] : 0;
        }

        int tell(int group, int what) {
            if (what == 0) {
                return isOpen(group) ? 1 : 0;
            }
            if (!isOpen(group)) {
                return NOT_FOUND;
            }
            switch (what) {
                case 1:
                    return beginOf(group);
                case 2:
                    return writesOf(group);
                default:
                    return heldBy(group);
            }
        }
    }

    /**
     * The records that there are. Only a checkpoint that is the latest matters for a restart, and
     * it is never lost (it is forced, and not torn) nor dropped: so its page numbers are kept once.
     */
    private static final class Journal {
        private final int[] kinds = new int[RECORD_ROOM];
        private final int[] owners = new int[RECORD_ROOM];
        private final int[] pageNumbers = new int[RECORD_ROOM];
        // Of a checkpoint, the old value is the set of open groups, the new one that of dirty pages.
        private final int[] olds = new int[RECORD_ROOM];
        private final int[] news = new int[RECORD_ROOM];
        private final int[] targets = new int[RECORD_ROOM];
        private final int[] checkpointStarts = new int[PAGES];
        private int first = 1;
        private int size;
        private int forced;
        private int latestCheckpoint;
        private int dropLimit;

        void copyFrom(Journal other) {
            System.arraycopy(other.kinds, 0, kinds, 0, RECORD_ROOM);
            System.arraycopy(other.owners, 0, owners, 0, RECORD_ROOM);
            System.arraycopy(other.pageNumbers, 0, pageNumbers, 0, RECORD_ROOM);
            System.arraycopy(other.olds, 0, olds, 0, RECORD_ROOM);
            System.arraycopy(other.news, 0, news, 0, RECORD_ROOM);
            System.arraycopy(other.targets, 0, targets, 0, RECORD_ROOM);
            System.arraycopy(other.checkpointStarts, 0, checkpointStarts, 0, PAGES);
            first = other.first;
            size = other.size;
            forced = other.forced;
            latestCheckpoint = other.latestCheckpoint;
            dropLimit = other.dropLimit;
        }

        boolean isFull() {
            return size >= MOST_RECORDS;
        }

        /** 0 if there is none. */
        int last() {
            return size == 0 ? 0 : first + size - 1;
        }

        boolean has(int record) {
            return record >= first && record - first < size && record - first < RECORD_ROOM;
        }

        /** What a row has of a record, or NOT_FOUND if there is no such record. */
        int at(int[] row, int record) {
            int place = record - first;
            return place >= 0 && place < size && place < row.length ? row[place] : NOT_FOUND;
        }

        int append(int kind, int owner, int page, int oldValue, int newValue, int target) {
            if (size < 0 || size >= RECORD_ROOM) {
                return NOT_FOUND;
            }
            kinds[size] = kind;
            owners[size] = owner;
            pageNumbers[size] = page;
            olds[size] = oldValue;
            news[size] = newValue;
            targets[size] = target;
            size++;
            return first + size - 1;
        }

        /** Returns how many records this forces. */
        int forceUpTo(int record) {
            int more = Math.max(0, record - forced);
            forced += more;
            return more;
        }

        int appendCheckpoint(Groups groups, Pages pages) {
            int record = append(CHECKPOINT, NOT_FOUND, NOT_FOUND, groups.open, pages.dirty, 0);
            latestCheckpoint = record;
            dropLimit = record;
            for (int group = 0; group < GROUPS; group++) {
                if ((groups.open >> group & 1) == 1) {
                    dropLimit = Math.min(dropLimit, groups.begins[group]);
                }
            }
            for (int page = 0; page < PAGES; page++) {
                boolean isDirty = (pages.dirty >> page & 1) == 1;
                checkpointStarts[page] = isDirty ? pages.starts[page] : 0;
                if (isDirty) {
                    dropLimit = Math.min(dropLimit, pages.starts[page]);
                }
            }
            forceUpTo(record);
            return record;
        }

        int droppable() {
            return latestCheckpoint == 0 ? 0 : Math.max(0, dropLimit - first);
        }

        int dropFirst() {
            int dropped = droppable();
            int kept = size - dropped;
            if (dropped <= 0 || kept < 0 || size > RECORD_ROOM) {
                return 0;
            }
            System.arraycopy(kinds, dropped, kinds, 0, kept);
            System.arraycopy(owners, dropped, owners, 0, kept);
            System.arraycopy(pageNumbers, dropped, pageNumbers, 0, kept);
            System.arraycopy(olds, dropped, olds, 0, kept);
            System.arraycopy(news, dropped, news, 0, kept);
            System.arraycopy(targets, dropped, targets, 0, kept);
            size = kept;
            first += dropped;
            return dropped;
        }

        /** Returns how many records are lost by a stop. */
        int loseRecords(boolean torn, int highestDiskMark) {
            int before = size;
            int kept = Math.min(last(), forced);
            if (torn && has(kept) && kept > highestDiskMark) {
                int kind = at(kinds, kept);
                if (kind != SETTLED && kind != CHECKPOINT) {
                    kept--;
                }
            }
            size = Math.max(0, kept - first + 1);
            forced = kept;
            return before - size;
        }

        /** A write counts when its group's next end behind it is a settling. */
        int settledValueOf(int page) {
            int settled = 0;
            for (int i = Math.min(size, RECORD_ROOM) - 1; i >= 0; i--) {
                int bit = owners[i] >= 0 && owners[i] < GROUPS ? 1 << owners[i] : 0;
                switch (kinds[i]) {
                    case SETTLED:
                        settled |= bit;
                        break;
                    case BEGUN:
                        settled &= ~bit;
                        break;
                    case WRITTEN:
                        if (pageNumbers[i] == page && (settled & bit) != 0) {
                            return news[i];
                        }
                        break;
                    default:
                        break;
                }
            }
            return NOT_FOUND;
        }

        int tell(int record, int what) {
            if (!has(record)) {
                return NOT_FOUND;
            }
            int kind = at(kinds, record);
            boolean changesPage = kind == WRITTEN || kind == UNWRITTEN;
            switch (what) {
                case 0:
                    return kind;
                case 1:
                    return at(owners, record);
                case 2:
                    return at(pageNumbers, record);
                case 3:
                    return changesPage ? at(olds, record) : NOT_FOUND;
                case 4:
                    return changesPage ? at(news, record) : NOT_FOUND;
                case 5:
                    return record <= forced ? 1 : 0;
                case 6:
                    return kind == CHECKPOINT ? at(olds, record) : NOT_FOUND;
                case 7:
                    return kind == CHECKPOINT ? at(news, record) : NOT_FOUND;
                default:
                    return kind == UNWRITTEN ? at(targets, record) : NOT_FOUND;
            }
        }

        int tellNumber(int what) {
            switch (what) {
                case 0:
                    return size;
                case 1:
                    return size == 0 ? 0 : first;
                case 2:
                    return last();
                case 3:
                    return size == 0 ? 0 : Math.max(0, forced - first + 1);
                case 8:
                    return latestCheckpoint;
                case 9:
                    return droppable();
                default:
                    return INVALID_ARGUMENT;
            }
        }
    }

    /** All that a change records: everything but the text. */
    private static final class Store {
        private final Pages pages = new Pages();
        private final Groups groups = new Groups();
        private final Journal journal = new Journal();
        private boolean stopped;
        private int doneAgain;

        void copyFrom(Store other) {
            pages.copyFrom(other.pages);
            groups.copyFrom(other.groups);
            journal.copyFrom(other.journal);
            stopped = other.stopped;
            doneAgain = other.doneAgain;
        }

        int beginGroup(int group) {
            if (group < 0 || group >= GROUPS) {
                return INVALID_ARGUMENT;
            }
            if (stopped || groups.isOpen(group)) {
                return NOT_POSSIBLE;
            }
            if (journal.isFull()) {
                return LIMIT_REACHED;
            }
            int record = journal.append(BEGUN, group, NOT_FOUND, 0, 0, 0);
            groups.enter(group, record);
            return record;
        }

        int writePage(int group, int page, int value) {
            if (group < 0 || group >= GROUPS || page < 0 || page >= PAGES) {
                return INVALID_ARGUMENT;
            }
            if (value < 0 || value >= VALUES) {
                return INVALID_ARGUMENT;
            }
            int holder = groups.holderOf(page);
            if (stopped || !groups.isOpen(group) || holder >= 0 && holder != group) {
                return NOT_POSSIBLE;
            }
            if (journal.isFull()) {
                return LIMIT_REACHED;
            }
            int oldValue = pages.valueOf(page);
            int record = journal.append(WRITTEN, group, page, oldValue, value, 0);
            pages.put(page, value, record);
            groups.hold(group, page);
            return oldValue;
        }

        /** 0 if the group can be ended by so many records. */
        private int errorOfEnding(int group, int records) {
            if (group < 0 || group >= GROUPS) {
                return INVALID_ARGUMENT;
            }
            if (stopped || !groups.isOpen(group)) {
                return NOT_POSSIBLE;
            }
            return journal.size + records > MOST_RECORDS ? LIMIT_REACHED : 0;
        }

        int settleGroup(int group) {
            int error = errorOfEnding(group, 1);
            if (error != 0) {
                return error;
            }
            journal.forceUpTo(journal.append(SETTLED, group, NOT_FOUND, 0, 0, 0));
            groups.leave(group);
            return Integer.bitCount(groups.heldBy(group));
        }

        int takeGroupBack(int group) {
            int writes = groups.writesOf(group);
            int error = errorOfEnding(group, writes + 1);
            if (error != 0) {
                return error;
            }
            int begin = groups.beginOf(group);
            // An open group has no write that was taken back already: only a restart meets those.
            for (int record = journal.last(); record > begin; record--) {
                boolean ofGroup = journal.at(journal.owners, record) == group;
                if (ofGroup && journal.at(journal.kinds, record) == WRITTEN) {
                    takeWriteBack(record);
                }
            }
            endGroup(group);
            return writes;
        }

        void takeWriteBack(int write) {
            int group = journal.at(journal.owners, write);
            int page = journal.at(journal.pageNumbers, write);
            int value = journal.at(journal.olds, write);
            int valueNow = pages.valueOf(page);
            pages.put(page, value, journal.append(UNWRITTEN, group, page, valueNow, value, write));
        }

        void endGroup(int group) {
            journal.append(ENDED, group, NOT_FOUND, 0, 0, 0);
            groups.leave(group);
        }

        int writePageOut(int page) {
            if (page < 0 || page >= PAGES) {
                return INVALID_ARGUMENT;
            }
            if (stopped || (pages.dirty >> page & 1) == 0) {
                return NOT_POSSIBLE;
            }
            int forcedNow = journal.forceUpTo(pages.markOf(page));
            pages.toDisk(page);
            return forcedNow;
        }

        int dropPageOut(int page) {
            if (page < 0 || page >= PAGES) {
                return INVALID_ARGUMENT;
            }
            int droppable = pages.cached & ~pages.dirty;
            if (stopped || (droppable >> page & 1) == 0) {
                return NOT_POSSIBLE;
            }
            pages.cached &= ~(1 << page);
            return Integer.bitCount(pages.cached);
        }

        int makeCheckpoint() {
            if (stopped) {
                return NOT_POSSIBLE;
            }
            if (journal.isFull()) {
                return LIMIT_REACHED;
            }
            return journal.appendCheckpoint(groups, pages);
        }

        int dropOldRecords() {
            if (stopped || journal.latestCheckpoint == 0) {
                return NOT_POSSIBLE;
            }
            return journal.dropFirst();
        }

        int forceAll() {
            return stopped ? NOT_POSSIBLE : journal.forceUpTo(journal.last());
        }

        int stopStore(int torn) {
            if (torn < 0 || torn > 1) {
                return INVALID_ARGUMENT;
            }
            if (stopped) {
                return NOT_POSSIBLE;
            }
            int lost = journal.loseRecords(torn == 1, pages.highestDiskMark());
            pages.emptyCache();
            groups.open = 0;
            stopped = true;
            return lost;
        }
    }

    /** Restarts a stopped store, and tells what that brought. */
    private static final class Restarter {
        private final int[] starts = new int[PAGES];
        private final int[] takenBack = new int[RECORD_ROOM];
        private int lookedFrom;
        private int losers;
        private int doneAgain;
        private int writesTakenBack;

        int run(Store store) {
            if (!store.stopped) {
                return NOT_POSSIBLE;
            }
            look(store.journal);
            doAgain(store.journal, store.pages);
            takeLosersBack(store);
            store.journal.forceUpTo(store.journal.last());
            store.stopped = false;
            store.doneAgain += doneAgain;
            return doneAgain;
        }

        int tell(int what) {
            switch (what) {
                case 1:
                    return doneAgain;
                case 2:
                    return writesTakenBack;
                case 3:
                    return losers;
                default:
                    return lookedFrom == 0 ? NOT_FOUND : lookedFrom;
            }
        }

        private void look(Journal journal) {
            int checkpointRecord = journal.latestCheckpoint;
            boolean fromCheckpoint = checkpointRecord != 0;
            losers = fromCheckpoint ? Math.max(0, journal.at(journal.olds, checkpointRecord)) : 0;
            lookedFrom = fromCheckpoint ? checkpointRecord : journal.tellNumber(1);
            for (int page = 0; page < PAGES; page++) {
                starts[page] = fromCheckpoint ? journal.checkpointStarts[page] : 0;
            }
            int last = journal.last();
            for (int record = Math.max(journal.first, lookedFrom); record <= last; record++) {
                lookAt(journal, record);
            }
        }

        /** A checkpoint itself is passed over: it has neither a group nor a page. */
        private void lookAt(Journal journal, int record) {
            int group = journal.at(journal.owners, record);
            int page = journal.at(journal.pageNumbers, record);
            int bit = group >= 0 && group < GROUPS ? 1 << group : 0;
            switch (journal.at(journal.kinds, record)) {
                case BEGUN:
                    losers |= bit;
                    break;
                case SETTLED:
                case ENDED:
                    losers &= ~bit;
                    break;
                case WRITTEN:
                case UNWRITTEN:
                    if (page >= 0 && page < PAGES && starts[page] == 0) {
                        starts[page] = record;
                    }
                    break;
                default:
                    break;
            }
        }

        private void doAgain(Journal journal, Pages pages) {
            doneAgain = 0;
            int least = leastStart();
            if (least == 0) {
                return;
            }
            int last = journal.last();
            for (int record = least; record <= last; record++) {
                int kind = journal.at(journal.kinds, record);
                int page = journal.at(journal.pageNumbers, record);
                boolean changesPage = kind == WRITTEN || kind == UNWRITTEN;
                if (changesPage && isAfterStart(page, record) && pages.markOf(page) < record) {
                    pages.put(page, journal.at(journal.news, record), record);
                    doneAgain++;
                }
            }
        }

        private boolean isAfterStart(int page, int record) {
            return page >= 0 && page < PAGES && starts[page] != 0 && starts[page] <= record;
        }

        private int leastStart() {
            int least = 0;
            for (int page = 0; page < PAGES; page++) {
                if (starts[page] != 0 && (least == 0 || starts[page] < least)) {
                    least = starts[page];
                }
            }
            return least;
        }

        private void takeLosersBack(Store store) {
            Journal journal = store.journal;
            writesTakenBack = 0;
            for (int i = 0; i < RECORD_ROOM; i++) {
                takenBack[i] = 0;
            }
            int left = losers;
            for (int record = journal.last(); record >= journal.first && left != 0; record--) {
                int kind = journal.at(journal.kinds, record);
                int group = journal.at(journal.owners, record);
                boolean ofLoser = group >= 0 && group < GROUPS && (left >> group & 1) == 1;
                if (kind == UNWRITTEN) {
                    noteTakenBack(journal.at(journal.targets, record) - journal.first);
                } else if (ofLoser && kind == BEGUN) {
                    store.endGroup(group);
                    left &= ~(1 << group);
                } else if (ofLoser && kind == WRITTEN && !isTakenBack(record - journal.first)) {
                    store.takeWriteBack(record);
                    writesTakenBack++;
                }
            }
        }

        private void noteTakenBack(int place) {
            if (place >= 0 && place < RECORD_ROOM) {
                takenBack[place] = 1;
            }
        }

        private boolean isTakenBack(int place) {
            return place >= 0 && place < RECORD_ROOM && takenBack[place] == 1;
        }
    }

    /** The latest states, in rows that are used again. */
    private static final class History {
        private final Store[] rows = new Store[STATE_ROWS];
        private int oldest;
        private int size;

        History() {
            for (int i = 0; i < STATE_ROWS; i++) {
                rows[i] = new Store();
            }
        }

        private Store rowAt(int place) {
            int row = Math.floorMod(oldest + place, STATE_ROWS);
            return row < STATE_ROWS ? rows[row] : null;
        }

        void prepare(Store store) {
            Store row = rowAt(size);
            if (row != null) {
                row.copyFrom(store);
            }
        }

        int keepUnlessError(int answer) {
            if (answer < 0) {
                return answer;
            }
            if (size < MOST_STATES) {
                size++;
            } else {
                oldest = (oldest + 1) % STATE_ROWS;
            }
            return answer;
        }

        int restoreLatest(Store store) {
            if (size == 0) {
                return NOT_POSSIBLE;
            }
            size--;
            Store row = rowAt(size);
            if (row != null) {
                store.copyFrom(row);
            }
            return size;
        }
    }

    /** The text, and its orders one after another. */
    private static final class OrderText {
        private final char[] signs = new char[MOST_SIGNS];
        private int length;
        private int next;
        private int letter;
        private int number;
        private int page;
        private int value;
        private int brokenAt;

        int append(char sign) {
            if (length < 0 || length >= MOST_SIGNS) {
                return LIMIT_REACHED;
            }
            signs[length] = sign;
            length++;
            return length;
        }

        int empty() {
            int before = length;
            length = 0;
            return before;
        }

        /** Reads the order at next, and goes on behind it, or tells where in it it breaks off. */
        boolean readOrder() {
            int start = next;
            if (readLetter() && readArguments() && readSign(';')) {
                return true;
            }
            brokenAt = next - start;
            return false;
        }

        /** 0 behind the end of the text. */
        private int sign() {
            return next >= 0 && next < length && next < MOST_SIGNS ? signs[next] : 0;
        }

        private boolean readLetter() {
            letter = sign();
            switch (letter) {
                case 'b':
                case 'w':
                case 's':
                case 't':
                case 'o':
                case 'c':
                case 'x':
                case 'r':
                    next++;
                    return true;
                default:
                    return false;
            }
        }

        private boolean readArguments() {
            if (letter == 'c' || letter == 'x' || letter == 'r') {
                return true;
            }
            number = readDigit();
            if (number < 0 || letter != 'w') {
                return number >= 0;
            }
            if (!readSign(',')) {
                return false;
            }
            page = readDigit();
            return page >= 0 && readSign(',') && readValue();
        }

        private boolean readValue() {
            value = readDigit();
            if (value < 0) {
                return false;
            }
            int second = readDigit();
            if (second >= 0) {
                value = value * 10 + second;
            }
            return true;
        }

        /** -1 if no digit comes next; then nothing is passed. */
        private int readDigit() {
            int sign = sign();
            if (sign < '0' || sign > '9') {
                return -1;
            }
            next++;
            return sign - '0';
        }

        private boolean readSign(int wanted) {
            if (sign() != wanted) {
                return false;
            }
            next++;
            return true;
        }
    }
}
