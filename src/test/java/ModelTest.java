import java.util.ArrayList;
import java.util.List;
import java.util.Map;
import java.util.Random;
import java.util.TreeMap;
import java.util.TreeSet;
import java.util.regex.Pattern;

/**
 * Runs of calls drawn with fixed seeds, each answer compared with that of a plain model: the
 * document's words on lists and maps, with whole copies instead of rows that are used again.
 */
public final class ModelTest {
    private static final int RUNS = 20000;
    private static final int CALLS = 512;
    // A step types an order of 8 characters, asks for its fault 5 times, clears the text and looks 4 times.
    private static final int MOST_OF_A_STEP = 18;
    private static final int INVALID = -1000001;
    private static final int NOT_POSSIBLE = -1000002;
    private static final int LIMIT = -1000003;
    private static final int NOT_FOUND = -1000004;

    public static void main(String[] args) {
        int wrong = 0;
        int most = 0;
        for (int seed = 0; seed < RUNS && wrong < 5; seed++) {
            Run run = new Run(seed);
            if (!run.agrees()) {
                wrong++;
            }
            most = Math.max(most, run.mostRecords);
        }
        System.out.println(RUNS + " runs, at most " + most + " records, " + wrong + " wrong");
        if (wrong != 0) {
            System.exit(1);
        }
    }

    private static final class Run {
        final Random random;
        final long seed;
        final SealedGroups real = new SealedGroups();
        final Model model = new Model();
        final List<String> told = new ArrayList<>();
        int calls;
        int mostRecords;
        final int taste;
        /** The journal comes to be full: many writes, few looks, ends, stops and texts. */
        final boolean deep;

        Run(long seed) {
            this.seed = seed;
            random = new Random(seed);
            taste = random.nextInt(4);
            deep = random.nextInt(3) == 0;
        }

        boolean agrees() {
            boolean same = true;
            while (same && calls <= CALLS - MOST_OF_A_STEP) {
                same = same(draw());
                for (int looks = random.nextInt(deep ? 2 : 5); looks > 0; looks--) {
                    same &= sameLook();
                }
                mostRecords = Math.max(mostRecords, model.now.records.size());
            }
            while (same && calls < CALLS) {
                same = sameLook();
            }
            if (!same) {
                System.out.println("seed " + seed + ":\n" + String.join("\n", told));
            }
            return same;
        }

        int draw() {
            int draw = random.nextInt(100);
            boolean aside = draw >= 36 && draw < 48 || draw >= 65;
            return deep && aside && random.nextInt(8) > 0 ? random.nextInt(65) : draw;
        }

        int group() {
            return random.nextInt(60) == 0 ? odd(4) : random.nextInt(4);
        }

        int page() {
            return random.nextInt(60) == 0 ? odd(8) : random.nextInt(taste == 0 ? 3 : 8);
        }

        int value() {
            return random.nextInt(60) == 0 ? odd(100) : random.nextInt(100);
        }

        int odd(int bound) {
            int[] odd = {-1, bound, Integer.MIN_VALUE, Integer.MAX_VALUE};
            return odd[random.nextInt(odd.length)];
        }

        boolean told(String call, int got, int want) {
            calls++;
            told.add(call + " = " + got + (got == want ? "" : " but the model says " + want));
            return got == want;
        }

        boolean same(int draw) {
            int g = group();
            int p = page();
            int v = value();
            if (draw < 10) {
                return told("begin " + g, real.begin(g), model.change(m -> m.begin(g)));
            } else if (draw < 36) {
                return told("write " + g + " " + p + " " + v, real.write(g, p, v),
                        model.change(m -> m.write(g, p, v)));
            } else if (draw < 43) {
                return told("settle " + g, real.settle(g), model.change(m -> m.settle(g)));
            } else if (draw < 48) {
                return told("takeBack " + g, real.takeBack(g), model.change(m -> m.takeBack(g)));
            } else if (draw < 56) {
                return told("writeOut " + p, real.writeOut(p), model.change(m -> m.writeOut(p)));
            } else if (draw < 59) {
                return told("dropOut " + p, real.dropOut(p), model.change(m -> m.dropOut(p)));
            } else if (draw < 62) {
                return told("checkpoint", real.checkpoint(), model.change(State::checkpoint));
            } else if (draw < 65) {
                return told("dropRecords", real.dropRecords(), model.change(State::dropRecords));
            } else if (draw < 68) {
                return told("force", real.force(), model.change(State::force));
            } else if (draw < 71) {
                int torn = random.nextInt(20) == 0 ? odd(2) : random.nextInt(2);
                return taste == 3 && random.nextInt(3) > 0
                        || told("stop " + torn, real.stop(torn), model.change(m -> m.stop(torn)));
            } else if (draw < 77) {
                return told("restart", real.restart(), model.change(State::restart));
            } else if (draw < 80) {
                return told("undo", real.undo(), model.undo());
            }
            return sameOfText(draw);
        }

        boolean sameOfText(int draw) {
            if (draw < 95) {
                return typedSame(random.nextInt(12) == 0 ? garbage() : order());
            } else if (draw < 96) {
                int sign = random.nextBoolean() ? 31 : 127;
                return told("type " + sign, real.type(sign), INVALID);
            } else if (draw < 98) {
                return told("clearText", real.clearText(), model.clearText());
            }
            return told("play", real.play(), model.play());
        }

        boolean typedSame(String order) {
            boolean same = true;
            for (char sign : order.toCharArray()) {
                same &= told("type " + sign, real.type(sign), model.type(sign));
            }
            for (int what = -1; what < 4; what++) {
                same &= told("fault " + what, real.fault(what), model.fault(what));
            }
            if (model.fault(1) == 1 && random.nextInt(3) > 0 || model.text.length() >= 78) {
                same &= told("clearText", real.clearText(), model.clearText());
            }
            return same;
        }

        String garbage() {
            StringBuilder text = new StringBuilder(order());
            text.setCharAt(random.nextInt(text.length()), (char) (32 + random.nextInt(95)));
            return random.nextBoolean() ? text.toString() : text.substring(0, text.length() - 1);
        }

        String order() {
            int g = random.nextInt(20) == 0 ? 4 + random.nextInt(6) : random.nextInt(4);
            int p = random.nextInt(20) == 0 ? 8 + random.nextInt(2) : random.nextInt(8);
            int v = random.nextInt(100);
            String value = v < 10 && random.nextBoolean() ? "0" + v : "" + v;
            String[] orders = {"b" + g, "b" + g, "w" + g + "," + p + "," + value, "w" + g + "," + p + "," + value,
                "w" + g + "," + p + "," + value, "s" + g, "t" + g, "o" + p, "c", "x", "r"};
            return orders[random.nextInt(orders.length)] + ";";
        }

        /** A number from 0 on below the bound, or now and then one next to it. */
        int near(int bound) {
            return random.nextInt(20) == 0 ? (random.nextBoolean() ? -1 : bound) : random.nextInt(bound);
        }

        boolean sameLook() {
            int draw = random.nextInt(12);
            if (draw < 2) {
                int what = near(13);
                return told("count " + what, real.count(what), model.count(what));
            } else if (draw < 5) {
                int page = near(8);
                int what = near(9);
                return told("pageOf " + page + " " + what, real.pageOf(page, what), model.pageOf(page, what));
            } else if (draw < 6) {
                int group = near(4);
                int what = near(4);
                return told("groupOf " + group + " " + what, real.groupOf(group, what), model.groupOf(group, what));
            } else if (draw < 9) {
                int record = model.count(1) - 2 + random.nextInt(model.count(0) + 4);
                int what = near(9);
                return told("recordOf " + record + " " + what, real.recordOf(record, what),
                        model.recordOf(record, what));
            }
            int torn = near(2);
            int what = random.nextBoolean() ? near(5) : 10 + near(8);
            return told("would " + torn + " " + what, real.would(torn, what), model.would(torn, what));
        }
    }

    private interface Change {
        int on(State state);
    }

    private static final class Rec {
        int number;
        int kind;
        int group = NOT_FOUND;
        int page = NOT_FOUND;
        int old = NOT_FOUND;
        int fresh = NOT_FOUND;
        int takes = NOT_FOUND;
        Map<Integer, Integer> openBegins;
        Map<Integer, Integer> dirtyFrom;
    }

    /** Value and mark. */
    private static final class Sheet {
        final int value;
        final int mark;

        Sheet(int value, int mark) {
            this.value = value;
            this.mark = mark;
        }
    }

    private static final class Model {
        State now = new State();
        final List<State> history = new ArrayList<>();
        String text = "";
        int faultAt;
        int reason;
        int cause;

        int change(Change change) {
            State next = now.copy();
            int answer = change.on(next);
            if (answer >= 0) {
                history.add(now);
                if (history.size() == 5) {
                    history.remove(0);
                }
                now = next;
            }
            return answer;
        }

        int undo() {
            if (history.isEmpty()) {
                return NOT_POSSIBLE;
            }
            now = history.remove(history.size() - 1);
            return history.size();
        }

        int type(int sign) {
            if (text.length() == 80) {
                return LIMIT;
            }
            text += (char) sign;
            return text.length();
        }

        int clearText() {
            int before = text.length();
            text = "";
            return before;
        }

        int play() {
            return change(state -> {
                int orders = doOrders(state);
                return reason == 0 ? orders : NOT_POSSIBLE;
            });
        }

        int fault(int what) {
            if (what < 0 || what > 2) {
                return INVALID;
            }
            doOrders(now.copy());
            if (reason == 0 || what == 2 && reason != 1) {
                return NOT_FOUND;
            }
            return what == 0 ? faultAt : what == 1 ? reason : cause;
        }

        int doOrders(State state) {
            reason = 0;
            faultAt = 0;
            int orders = 0;
            while (faultAt < text.length()) {
                int length = formLength(text.substring(faultAt));
                if (length < 0) {
                    reason = 1;
                    return orders;
                }
                int answer = state.order(text.substring(faultAt, faultAt + length));
                if (answer < 0) {
                    reason = answer == INVALID ? 2 : 3;
                    return orders;
                }
                faultAt += length;
                orders++;
            }
            return orders;
        }

        /** The length of the order at the front; otherwise -1, and cause is where it breaks off. */
        int formLength(String rest) {
            Pattern form = Pattern.compile("([bsto][0-9]|w[0-9],[0-9],[0-9]{1,2}|[cxr]);");
            for (int length = 1; length <= Math.min(9, rest.length()); length++) {
                String front = rest.substring(0, length);
                var matcher = form.matcher(front);
                if (matcher.matches()) {
                    return length;
                }
                if (!matcher.hitEnd()) {
                    cause = length - 1;
                    return -1;
                }
            }
            cause = rest.length();
            return -1;
        }

        int count(int what) {
            if (what == 11) {
                return history.size();
            }
            return what == 12 ? text.length() : now.count(what);
        }

        int pageOf(int page, int what) {
            return page < 0 || page > 7 || what < 0 || what > 8 ? INVALID : now.pageOf(page, what);
        }

        int groupOf(int group, int what) {
            return group < 0 || group > 3 || what < 0 || what > 3 ? INVALID : now.groupOf(group, what);
        }

        int recordOf(int record, int what) {
            return record < 1 || what < 0 || what > 8 ? INVALID : now.recordOf(record, what);
        }

        int would(int torn, int what) {
            if (torn < 0 || torn > 1 || what < 0 || what > 17 || what > 4 && what < 10) {
                return INVALID;
            }
            if (now.stopped) {
                return NOT_POSSIBLE;
            }
            State then = now.copy();
            int lost = then.stop(torn);
            int from = then.lookFrom();
            int again = then.restart();
            switch (what) {
                case 0:
                    return lost;
                case 1:
                    return again;
                case 2:
                    return then.takenBack;
                case 3:
                    return bits(then.losers);
                case 4:
                    return from;
                default:
                    return then.sheet(what - 10).value;
            }
        }
    }

    private static int bits(Iterable<Integer> numbers) {
        int bits = 0;
        for (int number : numbers) {
            bits |= 1 << number;
        }
        return bits;
    }

    private static final class State {
        Map<Integer, Sheet> disk = new TreeMap<>();
        Map<Integer, Sheet> cache = new TreeMap<>();
        Map<Integer, Integer> from = new TreeMap<>();
        Map<Integer, Integer> open = new TreeMap<>();
        List<Rec> records = new ArrayList<>();
        int forcedTo;
        boolean stopped;
        int doneAgain;
        TreeSet<Integer> losers = new TreeSet<>();
        int takenBack;

        State copy() {
            State copy = new State();
            copy.disk.putAll(disk);
            copy.cache.putAll(cache);
            copy.from.putAll(from);
            copy.open.putAll(open);
            copy.records.addAll(records);
            copy.forcedTo = forcedTo;
            copy.stopped = stopped;
            copy.doneAgain = doneAgain;
            return copy;
        }

        Sheet onDisk(int page) {
            return disk.getOrDefault(page, new Sheet(0, 0));
        }

        Sheet sheet(int page) {
            return cache.getOrDefault(page, onDisk(page));
        }

        boolean dirty(int page) {
            return cache.containsKey(page) && cache.get(page).mark != onDisk(page).mark;
        }

        TreeSet<Integer> dirtyPages() {
            TreeSet<Integer> pages = new TreeSet<>();
            for (int page = 0; page < 8; page++) {
                if (dirty(page)) {
                    pages.add(page);
                }
            }
            return pages;
        }

        int lastNumber() {
            return records.isEmpty() ? 0 : records.get(records.size() - 1).number;
        }

        Rec add(int kind, int group) {
            Rec record = new Rec();
            record.number = lastNumber() + 1;
            record.kind = kind;
            record.group = group;
            records.add(record);
            return record;
        }

        void put(int page, int value, int mark) {
            if (!dirty(page)) {
                from.put(page, mark);
            }
            cache.put(page, new Sheet(value, mark));
        }

        List<Rec> writesOf(int group) {
            List<Rec> writes = new ArrayList<>();
            for (Rec record : records) {
                if (record.group == group && record.kind == 0) {
                    writes.clear();
                }
                if (record.group == group && record.kind == 1) {
                    writes.add(record);
                }
            }
            return writes;
        }

        TreeSet<Integer> held(int group) {
            TreeSet<Integer> held = new TreeSet<>();
            if (open.containsKey(group)) {
                for (Rec write : writesOf(group)) {
                    held.add(write.page);
                }
            }
            return held;
        }

        int holder(int page) {
            for (int group : open.keySet()) {
                if (held(group).contains(page)) {
                    return group;
                }
            }
            return NOT_FOUND;
        }

        int order(String order) {
            String[] parts = order.substring(1, order.length() - 1).split(",");
            int first = parts[0].isEmpty() ? 0 : Integer.parseInt(parts[0]);
            switch (order.charAt(0)) {
                case 'b':
                    return begin(first);
                case 'w':
                    return write(first, Integer.parseInt(parts[1]), Integer.parseInt(parts[2]));
                case 's':
                    return settle(first);
                case 't':
                    return takeBack(first);
                case 'o':
                    return writeOut(first);
                case 'c':
                    return checkpoint();
                case 'x':
                    return stop(0);
                default:
                    return restart();
            }
        }

        int error(boolean valid, boolean possible, int more) {
            if (!valid) {
                return INVALID;
            }
            if (!possible || stopped) {
                return NOT_POSSIBLE;
            }
            return more > 0 && records.size() + more > 60 ? LIMIT : 0;
        }

        int begin(int group) {
            int error = error(group >= 0 && group < 4, !open.containsKey(group), 1);
            if (error != 0) {
                return error;
            }
            Rec record = add(0, group);
            open.put(group, record.number);
            return record.number;
        }

        int write(int group, int page, int value) {
            boolean valid = group >= 0 && group < 4 && page >= 0 && page < 8 && value >= 0 && value < 100;
            boolean free = holder(page) == NOT_FOUND || holder(page) == group;
            int error = error(valid, open.containsKey(group) && free, 1);
            if (error != 0) {
                return error;
            }
            Rec record = add(1, group);
            record.page = page;
            record.old = sheet(page).value;
            record.fresh = value;
            put(page, value, record.number);
            return record.old;
        }

        int settle(int group) {
            int error = error(group >= 0 && group < 4, open.containsKey(group), 1);
            if (error != 0) {
                return error;
            }
            int held = held(group).size();
            forcedTo = add(2, group).number;
            open.remove(group);
            return held;
        }

        int takeBack(int group) {
            int writes = writesOf(group).size();
            int error = error(group >= 0 && group < 4, open.containsKey(group), writes + 1);
            if (error != 0) {
                return error;
            }
            List<Rec> list = writesOf(group);
            for (int i = writes - 1; i >= 0; i--) {
                takeBack(list.get(i));
            }
            add(4, group);
            open.remove(group);
            return writes;
        }

        void takeBack(Rec write) {
            Rec record = add(3, write.group);
            record.page = write.page;
            record.old = sheet(write.page).value;
            record.fresh = write.old;
            record.takes = write.number;
            put(write.page, write.old, record.number);
        }

        int forceTo(int number) {
            int forced = 0;
            for (Rec record : records) {
                if (record.number > forcedTo && record.number <= number) {
                    forced++;
                }
            }
            forcedTo = Math.max(forcedTo, number);
            return forced;
        }

        int writeOut(int page) {
            int error = error(page >= 0 && page < 8, dirty(page), 0);
            if (error != 0) {
                return error;
            }
            int forced = forceTo(sheet(page).mark);
            disk.put(page, sheet(page));
            return forced;
        }

        int dropOut(int page) {
            int error = error(page >= 0 && page < 8, cache.containsKey(page) && !dirty(page), 0);
            if (error != 0) {
                return error;
            }
            cache.remove(page);
            return cache.size();
        }

        int checkpoint() {
            int error = error(true, true, 1);
            if (error != 0) {
                return error;
            }
            Rec record = add(5, NOT_FOUND);
            record.openBegins = new TreeMap<>(open);
            record.dirtyFrom = new TreeMap<>(from);
            record.dirtyFrom.keySet().retainAll(dirtyPages());
            forcedTo = record.number;
            return record.number;
        }

        Rec latestCheckpoint() {
            Rec latest = null;
            for (Rec record : records) {
                latest = record.kind == 5 ? record : latest;
            }
            return latest;
        }

        int droppable() {
            Rec checkpoint = latestCheckpoint();
            if (checkpoint == null) {
                return 0;
            }
            int least = checkpoint.number;
            for (int number : checkpoint.openBegins.values()) {
                least = Math.min(least, number);
            }
            for (int number : checkpoint.dirtyFrom.values()) {
                least = Math.min(least, number);
            }
            int droppable = 0;
            for (Rec record : records) {
                droppable += record.number < least ? 1 : 0;
            }
            return droppable;
        }

        int dropRecords() {
            int error = error(true, latestCheckpoint() != null, 0);
            if (error != 0) {
                return error;
            }
            int droppable = droppable();
            records.subList(0, droppable).clear();
            return droppable;
        }

        int force() {
            int error = error(true, true, 0);
            return error != 0 ? error : forceTo(lastNumber());
        }

        int stop(int torn) {
            int error = error(torn == 0 || torn == 1, true, 0);
            if (error != 0) {
                return error;
            }
            int before = records.size();
            records.removeIf(record -> record.number > forcedTo);
            if (torn == 1 && !records.isEmpty()) {
                Rec last = records.get(records.size() - 1);
                boolean above = true;
                for (Sheet sheet : disk.values()) {
                    above &= last.number > sheet.mark;
                }
                if (above && last.kind != 2 && last.kind != 5) {
                    records.remove(last);
                }
            }
            forcedTo = lastNumber();
            cache.clear();
            from.clear();
            open.clear();
            stopped = true;
            return before - records.size();
        }

        int lookFrom() {
            if (latestCheckpoint() != null) {
                return latestCheckpoint().number;
            }
            return records.isEmpty() ? NOT_FOUND : records.get(0).number;
        }

        int restart() {
            if (!stopped) {
                return NOT_POSSIBLE;
            }
            Rec checkpoint = latestCheckpoint();
            losers = new TreeSet<>();
            Map<Integer, Integer> numbers = new TreeMap<>();
            if (checkpoint != null) {
                losers.addAll(checkpoint.openBegins.keySet());
                numbers.putAll(checkpoint.dirtyFrom);
            }
            for (Rec record : records) {
                if (checkpoint != null && record.number <= checkpoint.number) {
                    continue;
                }
                if (record.kind == 0) {
                    losers.add(record.group);
                } else if (record.kind == 2 || record.kind == 4) {
                    losers.remove(record.group);
                } else if (record.kind == 1 || record.kind == 3) {
                    numbers.putIfAbsent(record.page, record.number);
                }
            }
            int again = doAgain(numbers);
            takeLosersBack();
            forceTo(lastNumber());
            stopped = false;
            doneAgain += again;
            return again;
        }

        int doAgain(Map<Integer, Integer> numbers) {
            int again = 0;
            for (Rec record : records) {
                boolean page = record.kind == 1 || record.kind == 3;
                if (page && numbers.containsKey(record.page) && numbers.get(record.page) <= record.number
                        && sheet(record.page).mark < record.number) {
                    put(record.page, record.fresh, record.number);
                    again++;
                }
            }
            return again;
        }

        void takeLosersBack() {
            takenBack = 0;
            TreeSet<Integer> gone = new TreeSet<>();
            for (Rec record : records) {
                gone.add(record.takes);
            }
            TreeSet<Integer> since = new TreeSet<>();
            for (int group : losers) {
                for (Rec write : writesOf(group)) {
                    since.add(write.number);
                }
                int begin = 0;
                for (Rec record : records) {
                    begin = record.kind == 0 && record.group == group ? record.number : begin;
                }
                since.add(begin);
            }
            List<Rec> before = new ArrayList<>(records);
            for (int i = before.size() - 1; i >= 0; i--) {
                Rec record = before.get(i);
                if (since.contains(record.number) && record.kind == 0) {
                    add(4, record.group);
                } else if (since.contains(record.number) && !gone.contains(record.number)) {
                    takeBack(record);
                    takenBack++;
                }
            }
        }

        int count(int what) {
            int checkpoint = latestCheckpoint() == null ? 0 : latestCheckpoint().number;
            int forced = 0;
            for (Rec record : records) {
                forced += record.number <= forcedTo ? 1 : 0;
            }
            int first = records.isEmpty() ? 0 : records.get(0).number;
            int[] answers = {records.size(), first, lastNumber(), forced, bits(open.keySet()),
                bits(cache.keySet()), bits(dirtyPages()), stopped ? 1 : 0, checkpoint, droppable(), doneAgain};
            return what < 0 || what >= answers.length ? INVALID : answers[what];
        }

        int pageOf(int page, int what) {
            int[] answers = {sheet(page).value, sheet(page).mark, onDisk(page).value, onDisk(page).mark,
                cache.containsKey(page) ? 1 : 0, dirty(page) ? 1 : 0, dirty(page) ? from.get(page) : NOT_FOUND,
                holder(page), settled(page)};
            return answers[what];
        }

        int settled(int page) {
            int value = NOT_FOUND;
            for (int i = 0; i < records.size(); i++) {
                Rec write = records.get(i);
                if (write.kind != 1 || write.page != page) {
                    continue;
                }
                for (int j = i + 1; j < records.size(); j++) {
                    Rec later = records.get(j);
                    if (later.group == write.group && later.kind == 0) {
                        break;
                    }
                    if (later.group == write.group && later.kind == 2) {
                        value = write.fresh;
                    }
                }
            }
            return value;
        }

        int groupOf(int group, int what) {
            if (what == 0) {
                return open.containsKey(group) ? 1 : 0;
            }
            if (!open.containsKey(group)) {
                return NOT_FOUND;
            }
            return what == 1 ? open.get(group) : what == 2 ? writesOf(group).size() : bits(held(group));
        }

        int recordOf(int number, int what) {
            for (Rec record : records) {
                if (record.number == number) {
                    boolean checkpoint = record.kind == 5;
                    int[] answers = {record.kind, record.group, record.page, record.old, record.fresh,
                        number <= forcedTo ? 1 : 0, checkpoint ? bits(record.openBegins.keySet()) : NOT_FOUND,
                        checkpoint ? bits(record.dirtyFrom.keySet()) : NOT_FOUND, record.takes};
                    return answers[what];
                }
            }
            return NOT_FOUND;
        }
    }
}
