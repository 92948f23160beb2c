import java.util.ArrayDeque;
import java.util.ArrayList;
import java.util.Arrays;
import java.util.Collections;
import java.util.Comparator;
import java.util.Deque;
import java.util.HashSet;
import java.util.List;
import java.util.NoSuchElementException;
import java.util.Set;
import java.util.TreeMap;
import java.util.TreeSet;

/**
 * The document once more, written with the Java library and the plainest steps, to be compared
 * with the class: dates are found by walking all days, minutes are counted one by one, and every
 * state that can come back is a deep copy.
 */
final class Model {
    static final class Zone {
        int offset;
        int first = -1;
        int last = -1;
        int version;

        Zone copy() {
            Zone c = new Zone();
            c.offset = offset;
            c.first = first;
            c.last = last;
            c.version = version;
            return c;
        }
    }

    static final class Event {
        int day;
        int minute;
        int length;
        int zone;
        int kind;
        int n;
        int weekdays;
        int times = 1;
        int version = -1;
        List<Integer> dates = new ArrayList<>();
        Set<Integer> cancelled = new HashSet<>();
        TreeMap<Integer, int[]> moved = new TreeMap<>();
        int[] whole = new int[2];
        List<TreeMap<Integer, Integer>> given = new ArrayList<>(List.of(new TreeMap<>(), new TreeMap<>()));

        Event copy() {
            Event c = new Event();
            c.day = day;
            c.minute = minute;
            c.length = length;
            c.zone = zone;
            c.kind = kind;
            c.n = n;
            c.weekdays = weekdays;
            c.times = times;
            c.version = version;
            c.dates = new ArrayList<>(dates);
            c.cancelled = new HashSet<>(cancelled);
            c.moved = new TreeMap<>(moved);
            c.whole = whole.clone();
            c.given = new ArrayList<>(List.of(new TreeMap<>(given.get(0)), new TreeMap<>(given.get(1))));
            return c;
        }

        void rule(int newKind, int newN, int newWeekdays, int newTimes) {
            kind = newKind;
            n = kind == 0 ? 0 : newN;
            weekdays = kind == 2 ? newWeekdays : 0;
            times = kind == 0 ? 1 : newTimes;
            dates.clear();
            cancelled.clear();
            moved.clear();
            given.get(0).clear();
            given.get(1).clear();
            for (int d = 0; d < 1095; d++) {
                if (d >= day && dates.size() < times && isRuled(d)) {
                    dates.add(d);
                }
            }
        }

        boolean isRuled(int d) {
            if (kind == 0) {
                return d == day;
            }
            if (kind == 1) {
                return (d - day) % n == 0;
            }
            if (kind == 2) {
                int mondayOfStart = day - day % 7;
                int monday = d - d % 7;
                return (monday - mondayOfStart) % (7 * n) == 0 && (weekdays & 1 << d % 7) != 0;
            }
            int[] start = date(day);
            int[] now = date(d);
            return now[1] == start[1] && ((now[2] * 12 + now[0]) - (start[2] * 12 + start[0])) % n == 0;
        }

        int answer(int side, int date) {
            int own = given.get(side).getOrDefault(date, 0);
            return own == 0 ? whole[side] : own;
        }

        int dayOf(int date) {
            return moved.containsKey(date) ? moved.get(date)[0] : dates.get(date);
        }

        int minuteOf(int date) {
            return moved.containsKey(date) ? moved.get(date)[1] : minute;
        }

        boolean shows(int date) {
            return !cancelled.contains(date);
        }

        int shownCount() {
            return dates.size() - cancelled.size();
        }
    }

    static final class Place {
        List<Zone> zones = new ArrayList<>();
        TreeMap<Integer, Event> events = new TreeMap<>();

        Place copy() {
            Place c = new Place();
            for (Zone z : zones) {
                c.zones.add(z.copy());
            }
            events.forEach((k, e) -> c.events.put(k, e.copy()));
            return c;
        }

        int moment(int zone, int day, int minute) {
            Zone z = zones.get(zone);
            boolean summer = z.first >= 0 && day % 365 >= z.first && day % 365 <= z.last;
            return day * 1440 + minute - z.offset - (summer ? 60 : 0);
        }

        int moment(Event e, int date) {
            return moment(e.zone, e.dayOf(date), e.minuteOf(date));
        }

        /** Event, date, moment and length of all dates that are shown, in order. */
        List<int[]> agenda() {
            List<int[]> all = new ArrayList<>();
            events.forEach((k, e) -> {
                for (int d = 0; d < e.dates.size(); d++) {
                    if (e.shows(d)) {
                        all.add(new int[] {k, d, moment(e, d), e.length});
                    }
                }
            });
            all.sort(Comparator.<int[]>comparingInt(a -> a[2]).thenComparingInt(a -> a[0]).thenComparingInt(a -> a[1]));
            return all;
        }
    }

    static final class Side {
        Place copy;
        int token;
        Set<Integer> changed = new TreeSet<>();
        Set<Integer> content = new TreeSet<>();
        /** The versions of the events that the side removed and has not pushed. */
        TreeMap<Integer, Integer> removed = new TreeMap<>();
        int[] accounts = new int[6];

        Side copy() {
            Side c = new Side();
            c.copy = copy.copy();
            c.token = token;
            c.changed = new TreeSet<>(changed);
            c.content = new TreeSet<>(content);
            c.removed = new TreeMap<>(removed);
            c.accounts = accounts.clone();
            return c;
        }

        int version(int event) {
            return copy.events.containsKey(event) ? copy.events.get(event).version : removed.getOrDefault(event, -1);
        }

        void take(int event, Event stored) {
            removed.remove(event);
            if (stored == null) {
                copy.events.remove(event);
            } else {
                copy.events.put(event, stored.copy());
            }
        }
    }

    static final class State {
        Place store = new Place();
        Side[] sides = {new Side(), new Side()};
        /** The event of each change (-1 for a zone), from the first change on; the clock is their number. */
        List<Integer> changes = new ArrayList<>();

        State copy() {
            State c = new State();
            c.store = store.copy();
            c.sides = new Side[] {sides[0].copy(), sides[1].copy()};
            c.changes = new ArrayList<>(changes);
            return c;
        }

        int clock() {
            return changes.size();
        }

        Set<Integer> told(int token) {
            if (token < clock() - 8) {
                return new TreeSet<>(store.events.keySet());
            }
            Set<Integer> told = new TreeSet<>(changes.subList(token, clock()));
            told.remove(-1);
            return told;
        }
    }

    private final List<Byte> buffer = new ArrayList<>();
    private int errorCode;
    private int errorPosition = -1;
    private State now;
    private final Deque<State> undoable = new ArrayDeque<>();
    private final State[] slots = new State[2];

    Model() {
        Place empty = new Place();
        empty.zones.add(new Zone());
        begin(empty);
    }

    private void begin(Place calendar) {
        now = new State();
        now.store = calendar;
        for (Side side : now.sides) {
            side.copy = calendar.copy();
        }
        undoable.clear();
        slots[0] = null;
        slots[1] = null;
    }

    // ---- input

    int feed(int a, int b, int c, int d, int e) {
        if (buffer.size() > 780) {
            throw new IllegalStateException();
        }
        for (int four : new int[] {a, b, c, d, e}) {
            for (int k = 3; k >= 0; k--) {
                buffer.add((byte) (four >>> 8 * k));
            }
        }
        return buffer.size();
    }

    int load(int length) {
        argument(length >= 0 && length <= buffer.size());
        ModelText read = new ModelText(new ArrayList<>(buffer.subList(0, length)));
        buffer.clear();
        errorCode = read.code;
        errorPosition = read.position;
        if (read.code != 0) {
            throw new IllegalStateException();
        }
        begin(read.calendar);
        return read.calendar.events.size();
    }

    int errorCode() {
        return errorCode;
    }

    int errorPosition() {
        return errorPosition;
    }

    // ---- days and zones

    /** Month from 1, day of the month from 1, year. */
    static int[] date(int day) {
        int[] lengths = {31, 28, 31, 30, 31, 30, 31, 31, 30, 31, 30, 31};
        int rest = day;
        int month = 0;
        while (rest >= lengths[month % 12]) {
            rest -= lengths[month % 12];
            month++;
        }
        return new int[] {month % 12 + 1, rest + 1, month / 12};
    }

    int day(int day, int what) {
        argument(day >= 0 && day < 1095 && what >= 0 && what < 4);
        int[] date = date(day);
        return what == 2 ? day % 7 : what == 3 ? date[2] : date[what];
    }

    int zone(int place, int zone, int what) {
        Place p = place(place);
        Zone z = zone(p, zone);
        index(what >= 0 && what < 4);
        return new int[] {z.offset, z.first, z.last, z.version}[what];
    }

    int moment(int place, int zone, int day, int minute) {
        Place p = place(place);
        argument(day >= 0 && day < 1095 && minute >= 0 && minute < 1440);
        zone(p, zone);
        return p.moment(zone, day, minute);
    }

    // ---- events and dates

    int events(int place) {
        return bits(place(place).events.keySet());
    }

    int event(int place, int event, int what) {
        Event e = event(place(place), event);
        index(what >= 0 && what < 12);
        return new int[] {e.day, e.minute, e.length, e.zone, e.kind, e.n, e.weekdays, e.times, e.version,
            e.dates.size(), bits(e.cancelled), bits(e.moved.keySet())}[what];
    }

    int date(int place, int event, int date, int what) {
        Place p = place(place);
        Event e = event(p, event);
        index(date >= 0 && date < e.dates.size() && what >= 0 && what < 7);
        return new int[] {e.dayOf(date), e.minuteOf(date), p.moment(e, date), e.shows(date) ? 1 : 0,
            e.dates.get(date), e.answer(0, date), e.answer(1, date)}[what];
    }

    int answer(int place, int event, int side) {
        Place p = place(place);
        side(side);
        return event(p, event).whole[side];
    }

    // ---- agendas

    int agenda(int place, int from, int to) {
        return (int) place(place).agenda().stream().filter(a -> a[2] >= from && a[2] < to).count();
    }

    int agendaAt(int place, int from, int index, int what) {
        List<int[]> all = new ArrayList<>(place(place).agenda());
        all.removeIf(a -> a[2] < from);
        element(index >= 0 && index < all.size());
        index(what >= 0 && what < 3);
        return all.get(index)[what];
    }

    int clashes(int place) {
        List<int[]> all = place(place).agenda();
        int pairs = 0;
        for (int a = 0; a < all.size(); a++) {
            for (int b = 0; b < a; b++) {
                int[] x = all.get(a);
                int[] y = all.get(b);
                if (x[2] < y[2] + y[3] && y[2] < x[2] + x[3]) {
                    pairs++;
                }
            }
        }
        return pairs;
    }

    float busy(int place, int from, int to) {
        Place p = place(place);
        argument((long) to > from && (long) to - from <= 100000);
        boolean[] minutes = new boolean[to - from];
        for (int[] a : p.agenda()) {
            for (int m = a[2]; m < a[2] + a[3]; m++) {
                if (m >= from && m < to) {
                    minutes[m - from] = true;
                }
            }
        }
        int count = 0;
        for (boolean minute : minutes) {
            count += minute ? 1 : 0;
        }
        return (float) count / (float) (to - from);
    }

    int busyBits(int place, int from, int to) {
        return Float.floatToIntBits(busy(place, from, to));
    }

    boolean isSame(int side) {
        return shown(side(side).copy).equals(shown(now.store));
    }

    private static Set<List<Integer>> shown(Place place) {
        Set<List<Integer>> all = new HashSet<>();
        for (int[] a : place.agenda()) {
            Event e = place.events.get(a[0]);
            all.add(List.of(a[0], a[1], a[2], a[3], e.answer(0, a[1]), e.answer(1, a[1])));
        }
        return all;
    }

    // ---- the exchange

    int clock() {
        return now.clock();
    }

    int side(int side, int what) {
        Side s = side(side);
        argument(what >= 0 && what < 5);
        return new int[] {s.token, bits(s.changed), bits(s.content), s.token < now.clock() - 8 ? 1 : 0,
            bits(now.told(s.token))}[what];
    }

    int account(int side, int what) {
        Side s = side(side);
        argument(what >= 0 && what < 6);
        return s.accounts[what];
    }

    // ---- acts

    int create(int side, int event, int day, int minute, int length, int zone) {
        Side s = side(side);
        argument(event >= 0 && event < 8 && day >= 0 && day < 1095 && minute >= 0 && minute < 1440);
        argument(length >= 1 && length <= 1440);
        zone(s.copy, zone);
        if (s.copy.events.containsKey(event)) {
            throw new IllegalStateException();
        }
        act();
        Event e = new Event();
        e.day = day;
        e.minute = minute;
        e.length = length;
        e.zone = zone;
        e.version = s.version(event);
        e.rule(0, 0, 0, 1);
        s.removed.remove(event);
        s.copy.events.put(event, e);
        s.changed.add(event);
        s.content.add(event);
        return s.copy.events.size();
    }

    int repeat(int side, int event, int kind, int n, int weekdays, int times) {
        Side s = side(side);
        argument(kind >= 0 && kind <= 3);
        if (kind != 0) {
            argument(n >= 1 && n <= 9 && times >= 1 && times <= 30);
        }
        if (kind == 2) {
            argument(weekdays >= 1 && weekdays <= 127);
        }
        Event e = event(s.copy, event);
        act();
        e.rule(kind, n, weekdays, times);
        s.changed.add(event);
        s.content.add(event);
        return e.dates.size();
    }

    int cancel(int side, int event, int date) {
        Side s = side(side);
        Event e = event(s.copy, event);
        index(date >= 0 && date < e.dates.size());
        act();
        if (!e.cancelled.remove(date)) {
            e.cancelled.add(date);
        }
        s.changed.add(event);
        s.content.add(event);
        return e.shownCount();
    }

    int move(int side, int event, int date, int day, int minute) {
        Side s = side(side);
        if (day != -1) {
            argument(day >= 0 && day < 1095 && minute >= 0 && minute < 1440);
        }
        Event e = event(s.copy, event);
        index(date >= 0 && date < e.dates.size());
        act();
        e.moved.remove(date);
        if (day != -1) {
            e.moved.put(date, new int[] {day, minute});
        }
        s.changed.add(event);
        s.content.add(event);
        return s.copy.moment(e, date);
    }

    int reply(int side, int event, int date, int answer) {
        Side s = side(side);
        argument(answer >= 0 && answer <= 3);
        Event e = event(s.copy, event);
        index(date >= -1 && date < e.dates.size());
        act();
        s.changed.add(event);
        if (date == -1) {
            int previous = e.whole[side];
            e.whole[side] = answer;
            return previous;
        }
        Integer previous = e.given.get(side).put(date, answer);
        return previous == null ? 0 : previous;
    }

    int remove(int side, int event) {
        Side s = side(side);
        Event e = event(s.copy, event);
        act();
        s.copy.events.remove(event);
        s.removed.put(event, e.version);
        s.changed.add(event);
        s.content.add(event);
        return s.copy.events.size();
    }

    int setZone(int zone, int offset, int first, int last) {
        Zone z = zone(now.store, zone);
        argument(offset >= -720 && offset <= 720 && first >= -1 && first <= 364);
        argument(first == -1 || last >= first && last <= 364);
        act();
        now.changes.add(-1);
        z.offset = offset;
        z.first = first;
        z.last = first == -1 ? -1 : last;
        z.version = now.clock();
        return now.clock();
    }

    int push(int side) {
        side(side);
        act();
        return doPush(side);
    }

    int pull(int side) {
        side(side);
        act();
        return doPull(side);
    }

    int sync(int side) {
        side(side);
        act();
        doPush(side);
        return doPull(side);
    }

    private int doPush(int number) {
        Side s = now.sides[number];
        int refused = 0;
        for (int k : new ArrayList<>(s.changed)) {
            refused += pushEvent(number, k) ? 0 : 1;
        }
        s.changed.clear();
        s.content.clear();
        s.removed.clear();
        return refused;
    }

    private boolean pushEvent(int number, int k) {
        Side s = now.sides[number];
        Event mine = s.copy.events.get(k);
        Event stored = now.store.events.get(k);
        boolean isFromStore = s.version(k) != -1;
        if (stored != null && isFromStore && stored.version == s.version(k) || stored == null && !isFromStore) {
            if (stored == null && mine == null) {
                return true;
            }
            now.changes.add(k);
            if (mine == null) {
                now.store.events.remove(k);
            } else {
                mine.version = now.clock();
                now.store.events.put(k, mine.copy());
            }
            s.accounts[0]++;
            return true;
        }
        if (stored != null && !s.content.contains(k)) {
            now.changes.add(k);
            stored.version = now.clock();
            stored.whole[number] = mine.whole[number];
            TreeMap<Integer, Integer> given = new TreeMap<>(mine.given.get(number));
            given.keySet().removeIf(d -> d >= stored.dates.size());
            stored.given.set(number, given);
            s.take(k, stored);
            s.accounts[1]++;
            return true;
        }
        s.take(k, stored);
        s.accounts[2]++;
        return false;
    }

    private int doPull(int number) {
        Side s = now.sides[number];
        int told = now.told(s.token).size();
        s.accounts[3]++;
        s.accounts[4] += s.token < now.clock() - 8 ? 1 : 0;
        s.accounts[5] += told;
        s.copy.zones = now.store.copy().zones;
        for (int k = 0; k < 8; k++) {
            if (!s.changed.contains(k)) {
                s.take(k, now.store.events.get(k));
            }
        }
        s.token = now.clock();
        return told;
    }

    // ---- undo and slots

    private void act() {
        // The state goes on in the same object, so that what a call has looked up stays right.
        undoable.push(now.copy());
        while (undoable.size() > 12) {
            undoable.removeLast();
        }
    }

    int undo() {
        if (undoable.isEmpty()) {
            throw new IllegalStateException();
        }
        now = undoable.pop();
        return undoable.size();
    }

    int keep(int slot) {
        argument(slot == 0 || slot == 1);
        slots[slot] = now.copy();
        return now.clock();
    }

    int restore(int slot) {
        argument(slot == 0 || slot == 1);
        element(slots[slot] != null);
        now = slots[slot].copy();
        undoable.clear();
        return now.clock();
    }

    // ---- shared

    private Place place(int place) {
        argument(place >= 0 && place <= 2);
        return place == 2 ? now.store : now.sides[place].copy;
    }

    private Side side(int side) {
        argument(side == 0 || side == 1);
        return now.sides[side];
    }

    private static Zone zone(Place p, int zone) {
        element(zone >= 0 && zone < p.zones.size());
        return p.zones.get(zone);
    }

    private static Event event(Place p, int event) {
        element(p.events.containsKey(event));
        return p.events.get(event);
    }

    private static int bits(Set<Integer> numbers) {
        int bits = 0;
        for (int k : numbers) {
            bits |= 1 << k;
        }
        return bits;
    }

    private static void argument(boolean holds) {
        if (!holds) {
            throw new IllegalArgumentException();
        }
    }

    private static void element(boolean holds) {
        if (!holds) {
            throw new NoSuchElementException();
        }
    }

    private static void index(boolean holds) {
        if (!holds) {
            throw new IndexOutOfBoundsException();
        }
    }

    /** A text as a list of tokens first, and then the grammar over it. */
    static final class ModelText {
        private static final class Wrong extends Exception {
            private static final long serialVersionUID = 1L;
            final int code;
            final int position;

            Wrong(int code, int position) {
                this.code = code;
                this.position = position;
            }
        }

        private static final List<String> DAYS = Arrays.asList("mo", "tu", "we", "th", "fr", "sa", "su");

        final Place calendar = new Place();
        int code;
        int position = -1;
        private final List<String> tokens = new ArrayList<>();
        private final List<Integer> positions = new ArrayList<>();
        private int at;

        ModelText(List<Byte> bytes) {
            StringBuilder text = new StringBuilder();
            for (byte b : bytes) {
                text.append((char) (b & 255));
            }
            split(text.toString());
            try {
                while (!peek().isEmpty()) {
                    statement();
                }
                if (calendar.zones.isEmpty()) {
                    calendar.zones.add(new Zone());
                }
            } catch (Wrong wrong) {
                code = wrong.code;
                position = wrong.position;
            }
        }

        private void split(String text) {
            java.util.regex.Matcher m = java.util.regex.Pattern
                .compile("[a-z]+|[0-9]+|[ \\n]+|[\\s\\S]").matcher(text);
            while (m.find()) {
                if (!m.group().trim().isEmpty() || !m.group().matches("[ \\n]+")) {
                    tokens.add(m.group());
                    positions.add(m.start());
                }
            }
            tokens.addAll(Collections.singletonList(""));
            positions.add(text.length());
        }

        private String peek() {
            return tokens.get(at);
        }

        private Wrong wrong(int code) {
            return new Wrong(code, positions.get(at));
        }

        private boolean accept(String token) {
            if (peek().equals(token)) {
                at++;
                return true;
            }
            return false;
        }

        private void expect(String token) throws Wrong {
            if (!accept(token)) {
                throw wrong(1);
            }
        }

        private int number(int least, int most) throws Wrong {
            if (!peek().matches("[0-9]{1,4}")) {
                throw wrong(1);
            }
            int value = Integer.parseInt(peek());
            if (value < least || value > most) {
                throw wrong(2);
            }
            at++;
            return value;
        }

        private void statement() throws Wrong {
            if (peek().equals("zone")) {
                zone();
            } else if (peek().equals("event")) {
                event();
            } else {
                throw wrong(1);
            }
            expect(";");
        }

        private void zone() throws Wrong {
            if (calendar.zones.size() == 3) {
                throw wrong(4);
            }
            expect("zone");
            int sign = accept("-") ? -1 : 1;
            Zone z = new Zone();
            z.offset = sign * number(0, 720);
            if (accept("summer")) {
                z.first = number(0, 364);
                z.last = number(z.first, 364);
            }
            calendar.zones.add(z);
        }

        private void event() throws Wrong {
            if (calendar.events.size() == 8) {
                throw wrong(4);
            }
            expect("event");
            Event e = new Event();
            e.version = 0;
            e.day = number(0, 1094);
            e.minute = number(0, 1439);
            e.length = number(1, 1440);
            e.zone = number(0, calendar.zones.size() - 1);
            e.rule(0, 0, 0, 1);
            if (accept("every")) {
                every(e);
            }
            while (peek().equals("not") || peek().equals("move")) {
                if (accept("not")) {
                    int here = at;
                    int date = number(0, e.dates.size() - 1);
                    if (!e.cancelled.add(date)) {
                        at = here;
                        throw wrong(3);
                    }
                } else {
                    expect("move");
                    int date = number(0, e.dates.size() - 1);
                    int day = number(0, 1094);
                    e.moved.put(date, new int[] {day, number(0, 1439)});
                }
            }
            calendar.events.put(calendar.events.size(), e);
        }

        private void every(Event e) throws Wrong {
            int n = number(1, 9);
            int kind = 0;
            int weekdays = 0;
            if (accept("days")) {
                kind = 1;
            } else if (accept("weeks")) {
                kind = 2;
                do {
                    int weekday = DAYS.indexOf(peek());
                    if (weekday < 0) {
                        throw wrong(1);
                    }
                    if ((weekdays & 1 << weekday) != 0) {
                        throw wrong(3);
                    }
                    weekdays |= 1 << weekday;
                    at++;
                } while (DAYS.contains(peek()));
            } else {
                expect("months");
                kind = 3;
            }
            expect("times");
            e.rule(kind, n, weekdays, number(1, 30));
        }
    }
}
