import java.util.NoSuchElementException;

/**
 * Exchange of a calendar between a store and two sides.
 *
 * All rows that a call needs are made in the constructors and used again, so that a long run of
 * calls makes nothing more (but for the exceptions that it throws).
 */
public final class CalendarSync {
    public static final int NONE = -1;

    private static final int STORE = 2;
    private static final int SIDES = 2;
    private static final int SLOTS = 2;
    private static final int ACCOUNTS = 6;
    private static final int ANSWERS = 4;
    private static final int MOST_ZONES = 3;
    private static final int MOST_EVENTS = 8;
    private static final int MOST_DATES = 30;
    private static final int MOST_INTERVAL = 9;
    private static final int MOST_LENGTH = 1440;
    private static final int MOST_OFFSET = 720;
    private static final int MOST_SPAN = 100000;
    private static final int TEXT_BYTES = 800;
    private static final int FEED_BYTES = 20;

    private static final int ONCE = 0;
    private static final int DAILY = 1;
    private static final int WEEKLY = 2;
    private static final int MONTHLY = 3;

    private final Reader reader = new Reader();
    private final Exchange exchange = new Exchange();
    private final History history = new History();
    private final Exchange[] slots = {new Exchange(), new Exchange()};
    private final boolean[] isKept = new boolean[SLOTS];
    private final Agenda shownDates = new Agenda();

    public CalendarSync() {
    }

    // ---- input

    public int feed(int a, int b, int c, int d, int e) throws IllegalStateException {
        Text text = reader.text;
        requireState(text.length + FEED_BYTES <= TEXT_BYTES);
        text.appendBytes(a);
        text.appendBytes(b);
        text.appendBytes(c);
        text.appendBytes(d);
        text.appendBytes(e);
        return text.length;
    }

    public int load(int length) throws IllegalArgumentException, IllegalStateException {
        requireArgument(isWithin(length, 0, reader.text.length));
        boolean isRead = reader.readCalendar(length);
        reader.text.length = 0;
        requireState(isRead);
        exchange.beginWith(reader.draft);
        history.forget();
        for (int slot = 0; slot < SLOTS; slot++) {
            isKept[slot] = false;
        }
        return reader.eventCount;
    }

    public int errorCode() {
        return reader.errorCode;
    }

    public int errorPosition() {
        return reader.errorPosition;
    }

    // ---- days and zones

    public int day(int day, int what) throws IllegalArgumentException {
        requireArgument(Days.isDay(day));
        switch (what) {
            case 0:
                return Days.monthOf(day) + 1;
            case 1:
                return Days.dayOfMonth(day);
            case 2:
                return Days.weekdayOf(day);
            case 3:
                return Days.yearOf(day);
            default:
                throw new IllegalArgumentException("no such what");
        }
    }

    public int zone(int place, int zone, int what)
            throws IllegalArgumentException, NoSuchElementException, IndexOutOfBoundsException {
        Zone asked = zoneAt(placeAt(place), zone);
        switch (what) {
            case 0:
                return asked.offset;
            case 1:
                return asked.first;
            case 2:
                return asked.last;
            case 3:
                return asked.version;
            default:
                throw new IndexOutOfBoundsException("no such what");
        }
    }

    public int moment(int place, int zone, int day, int minute)
            throws IllegalArgumentException, NoSuchElementException {
        Place asked = placeAt(place);
        requireArgument(Days.isDay(day) && Days.isMinute(minute));
        return zoneAt(asked, zone).momentAt(day, minute);
    }

    // ---- events and dates

    public int events(int place) throws IllegalArgumentException {
        return placeAt(place).eventBits();
    }

    public int event(int place, int event, int what)
            throws IllegalArgumentException, NoSuchElementException, IndexOutOfBoundsException {
        Event asked = eventAt(placeAt(place), event);
        switch (what) {
            case 0:
                return asked.day;
            case 1:
                return asked.minute;
            case 2:
                return asked.length;
            case 3:
                return asked.zone;
            case 4:
                return asked.kind;
            case 5:
                return asked.n;
            case 6:
                return asked.weekdays;
            case 7:
                return asked.times;
            case 8:
                return asked.version;
            case 9:
                return asked.dates;
            case 10:
                return asked.cancelled;
            case 11:
                return asked.moved;
            default:
                throw new IndexOutOfBoundsException("no such what");
        }
    }

    public int date(int place, int event, int date, int what)
            throws IllegalArgumentException, NoSuchElementException, IndexOutOfBoundsException {
        Place asked = placeAt(place);
        Event one = eventAt(asked, event);
        requireIndex(one.hasDate(date));
        switch (what) {
            case 0:
                return one.dayOf(date);
            case 1:
                return one.minuteOf(date);
            case 2:
                return asked.momentOf(event, date);
            case 3:
                return one.isShown(date) ? 1 : 0;
            case 4:
                return one.ruleDay[date];
            case 5:
                return one.answerTo(0, date);
            case 6:
                return one.answerTo(1, date);
            default:
                throw new IndexOutOfBoundsException("no such what");
        }
    }

    public int answer(int place, int event, int side)
            throws IllegalArgumentException, NoSuchElementException {
        Place asked = placeAt(place);
        requireArgument(isSide(side));
        return eventAt(asked, event).whole[side];
    }

    // ---- agendas

    public int agenda(int place, int from, int to) throws IllegalArgumentException {
        shownDates.listAll(placeAt(place));
        int before = shownDates.countBefore(from);
        return Math.max(0, shownDates.countBefore(to) - before);
    }

    public int agendaAt(int place, int from, int index, int what)
            throws IllegalArgumentException, NoSuchElementException, IndexOutOfBoundsException {
        shownDates.listAll(placeAt(place));
        int before = shownDates.countBefore(from);
        requireElement(isWithin(index, 0, shownDates.count - before - 1));
        switch (what) {
            case 0:
                return shownDates.eventOf(before + index);
            case 1:
                return shownDates.dateOf(before + index);
            case 2:
                return shownDates.momentOf(before + index);
            default:
                throw new IndexOutOfBoundsException("no such what");
        }
    }

    public int clashes(int place) throws IllegalArgumentException {
        shownDates.listAll(placeAt(place));
        return shownDates.countOverlaps();
    }

    public float busy(int place, int from, int to) throws IllegalArgumentException {
        return busyShare(place, from, to);
    }

    public int busyBits(int place, int from, int to) throws IllegalArgumentException {
        return bitsOfShare(busyShare(place, from, to));
    }

    public boolean isSame(int side) throws IllegalArgumentException {
        Place copy = sideAt(side).copy;
        for (int event = 0; event < MOST_EVENTS; event++) {
            if (!copy.showsSame(exchange.store, event)) {
                return false;
            }
        }
        return true;
    }

    // ---- the exchange

    public int clock() {
        return exchange.clock;
    }

    public int side(int side, int what) throws IllegalArgumentException {
        Side asked = sideAt(side);
        switch (what) {
            case 0:
                return asked.token;
            case 1:
                return asked.changed;
            case 2:
                return asked.contentChanged;
            case 3:
                return exchange.isTooOld(asked.token) ? 1 : 0;
            case 4:
                return exchange.toldBehind(asked.token);
            default:
                throw new IllegalArgumentException("no such what");
        }
    }

    public int account(int side, int what) throws IllegalArgumentException {
        Side asked = sideAt(side);
        requireArgument(isWithin(what, 0, ACCOUNTS - 1));
        return asked.accounts[what];
    }

    // ---- acts of a side on its copy

    public int create(int side, int event, int day, int minute, int length, int zone)
            throws IllegalArgumentException, NoSuchElementException, IllegalStateException {
        Side actor = sideAt(side);
        requireArgument(isWithin(event, 0, MOST_EVENTS - 1));
        requireArgument(Days.isDay(day) && Days.isMinute(minute));
        requireArgument(isWithin(length, 1, MOST_LENGTH));
        requireElement(actor.copy.hasZone(zone));
        requireState(!actor.copy.hasEvent(event));
        history.save(exchange);
        actor.copy.events[event].startAt(day, minute, length, zone);
        actor.noteContent(event);
        return Integer.bitCount(actor.copy.eventBits());
    }

    public int repeat(int side, int event, int kind, int n, int weekdays, int times)
            throws IllegalArgumentException, NoSuchElementException {
        Side actor = sideAt(side);
        requireArgument(isWithin(kind, ONCE, MONTHLY));
        requireArgument(kind == ONCE || isWithin(n, 1, MOST_INTERVAL));
        requireArgument(kind == ONCE || isWithin(times, 1, MOST_DATES));
        requireArgument(kind != WEEKLY || isWithin(weekdays, 1, Days.WHOLE_WEEK));
        Event one = eventAt(actor.copy, event);
        history.save(exchange);
        one.setRule(kind, n, weekdays, times);
        actor.noteContent(event);
        return one.dates;
    }

    public int cancel(int side, int event, int date)
            throws IllegalArgumentException, NoSuchElementException, IndexOutOfBoundsException {
        Side actor = sideAt(side);
        Event one = eventAt(actor.copy, event);
        requireIndex(one.hasDate(date));
        history.save(exchange);
        one.cancelled ^= 1 << date;
        actor.noteContent(event);
        return Integer.bitCount(one.shownBits());
    }

    public int move(int side, int event, int date, int day, int minute)
            throws IllegalArgumentException, NoSuchElementException, IndexOutOfBoundsException {
        Side actor = sideAt(side);
        requireArgument(day == NONE || Days.isDay(day) && Days.isMinute(minute));
        Event one = eventAt(actor.copy, event);
        requireIndex(one.hasDate(date));
        history.save(exchange);
        if (day == NONE) {
            one.moved &= ~(1 << date);
        } else {
            one.moveTo(date, day, minute);
        }
        actor.noteContent(event);
        return actor.copy.momentOf(event, date);
    }

    public int reply(int side, int event, int date, int answer)
            throws IllegalArgumentException, NoSuchElementException, IndexOutOfBoundsException {
        Side actor = sideAt(side);
        requireArgument(isWithin(answer, 0, ANSWERS - 1));
        Event one = eventAt(actor.copy, event);
        requireIndex(date == NONE || one.hasDate(date));
        history.save(exchange);
        actor.noteAnswers(event);
        int previous;
        if (date == NONE) {
            previous = one.whole[side];
            one.whole[side] = answer;
        } else {
            previous = one.givenTo(side, date);
            one.giveTo(side, date, answer);
        }
        return previous;
    }

    public int remove(int side, int event)
            throws IllegalArgumentException, NoSuchElementException {
        Side actor = sideAt(side);
        Event one = eventAt(actor.copy, event);
        history.save(exchange);
        // Its version stays: a push compares it, and create() brings the event back with it.
        one.isThere = false;
        actor.noteContent(event);
        return Integer.bitCount(actor.copy.eventBits());
    }

    // ---- acts of the store and of the exchange

    public int setZone(int zone, int offset, int first, int last)
            throws NoSuchElementException, IllegalArgumentException {
        Zone one = zoneAt(exchange.store, zone);
        requireArgument(isWithin(offset, -MOST_OFFSET, MOST_OFFSET));
        requireArgument(first == NONE || Days.isDayOfYear(first));
        requireArgument(first == NONE || Days.isDayOfYear(last) && first <= last);
        history.save(exchange);
        one.setTo(offset, first, first == NONE ? NONE : last);
        one.version = exchange.countChange(NONE);
        return exchange.clock;
    }

    public int push(int side) throws IllegalArgumentException {
        requireArgument(isSide(side));
        history.save(exchange);
        return exchange.pushFrom(side);
    }

    public int pull(int side) throws IllegalArgumentException {
        requireArgument(isSide(side));
        history.save(exchange);
        return exchange.pullTo(side);
    }

    public int sync(int side) throws IllegalArgumentException {
        requireArgument(isSide(side));
        history.save(exchange);
        exchange.pushFrom(side);
        return exchange.pullTo(side);
    }

    // ---- undo and slots

    public int undo() throws IllegalStateException {
        requireState(history.count > 0);
        history.bringBack(exchange);
        return history.count;
    }

    public int keep(int slot) throws IllegalArgumentException {
        requireArgument(isWithin(slot, 0, SLOTS - 1));
        slots[slot].become(exchange);
        isKept[slot] = true;
        return exchange.clock;
    }

    public int restore(int slot) throws IllegalArgumentException, NoSuchElementException {
        requireArgument(isWithin(slot, 0, SLOTS - 1));
        requireElement(isKept[slot]);
        exchange.become(slots[slot]);
        history.forget();
        return exchange.clock;
    }

    // ---- what the calls share

    private float busyShare(int place, int from, int to) {
        Place asked = placeAt(place);
        long span = (long) to - from;
        requireArgument(span >= 1 && span <= MOST_SPAN);
        shownDates.listAll(asked);
        return (float) shownDates.countMinutes(from, to) / (float) span;
    }

    /** The language leaves no call for the bits of a float; all steps here are exact for 0 to 1. */
    private static int bitsOfShare(float share) {
        if (!(share > 0f)) {
            return 0;
        }
        float scaled = share;
        int exponent = 127;
        for (int step = 0; step < 126 && scaled < 1f; step++) {
            scaled = scaled * 2f;
            exponent--;
        }
        return (exponent << 23) + (int) ((scaled - 1f) * 8388608f);
    }

    private Place placeAt(int place) {
        requireArgument(isWithin(place, 0, STORE));
        return place == STORE ? exchange.store : exchange.sides[place].copy;
    }

    private Side sideAt(int side) {
        requireArgument(isSide(side));
        return exchange.sides[side];
    }

    private static Zone zoneAt(Place place, int zone) {
        requireElement(place.hasZone(zone));
        return place.zones[zone];
    }

    private static Event eventAt(Place place, int event) {
        requireElement(place.hasEvent(event));
        return place.events[event];
    }

    private static boolean isSide(int side) {
        return isWithin(side, 0, SIDES - 1);
    }

    private static boolean isWithin(int number, int least, int most) {
        return least <= number && number <= most;
    }

    private static boolean hasBit(int bits, int place) {
        return (bits >> place & 1) != 0;
    }

    private static void requireArgument(boolean holds) {
        if (!holds) {
            throw new IllegalArgumentException("out of range");
        }
    }

    private static void requireElement(boolean holds) {
        if (!holds) {
            throw new NoSuchElementException("not there");
        }
    }

    private static void requireIndex(boolean holds) {
        if (!holds) {
            throw new IndexOutOfBoundsException("no such date");
        }
    }

    private static void requireState(boolean holds) {
        if (!holds) {
            throw new IllegalStateException("not possible now");
        }
    }

    /** Three years without leap days; day 0 is a Monday, the first of January. */
    private static final class Days {
        static final int YEAR = 365;
        static final int YEARS = 3;
        static final int LAST = YEAR * YEARS - 1;
        static final int MINUTES = 1440;
        static final int WEEK = 7;
        static final int WHOLE_WEEK = 127;
        static final int MONTHS = 12;
        /** One entry more than months, so that a month ends where the next one starts. */
        private static final int[] MONTH_START =
            {0, 31, 59, 90, 120, 151, 181, 212, 243, 273, 304, 334, 365};

        static boolean isDay(int day) {
            return isWithin(day, 0, LAST);
        }

        static boolean isDayOfYear(int day) {
            return isWithin(day, 0, YEAR - 1);
        }

        static boolean isMinute(int minute) {
            return isWithin(minute, 0, MINUTES - 1);
        }

        static int yearOf(int day) {
            return day / YEAR;
        }

        static int weekdayOf(int day) {
            return day % WEEK;
        }

        /** From 0. */
        static int monthOf(int day) {
            int dayOfYear = day % YEAR;
            int month = 0;
            while (month < MONTHS - 1 && MONTH_START[month + 1] <= dayOfYear) {
                month++;
            }
            return month;
        }

        /** From 1. */
        static int dayOfMonth(int day) {
            return day % YEAR - MONTH_START[monthOf(day)] + 1;
        }

        /** The month is counted from 0 through all years; NONE if it has no such day. */
        static int dayInMonth(int month, int dayOfMonth) {
            if (month < 0 || month >= MONTHS * YEARS) {
                return NONE;
            }
            int start = MONTH_START[month % MONTHS];
            int length = MONTH_START[month % MONTHS + 1] - start;
            return dayOfMonth > length ? NONE : month / MONTHS * YEAR + start + dayOfMonth - 1;
        }
    }

    private static final class Zone {
        private static final int SUMMER_MINUTES = 60;
        int offset;
        int first = NONE;
        int last = NONE;
        int version;

        void setTo(int newOffset, int newFirst, int newLast) {
            offset = newOffset;
            first = newFirst;
            last = newLast;
        }

        void become(Zone other) {
            offset = other.offset;
            first = other.first;
            last = other.last;
            version = other.version;
        }

        int momentAt(int day, int minute) {
            int moment = day * Days.MINUTES + minute - offset;
            return isSummer(day % Days.YEAR) ? moment - SUMMER_MINUTES : moment;
        }

        private boolean isSummer(int dayOfYear) {
            return first != NONE && isWithin(dayOfYear, first, last);
        }
    }

    private static final class Event {
        boolean isThere;
        int day;
        int minute;
        int length;
        int zone;
        int kind;
        int n;
        int weekdays;
        int times;
        /** NONE if it had not come from the store; always NONE for one that the store has not. */
        int version = NONE;
        int dates;
        int cancelled;
        int moved;
        final int[] ruleDay = new int[MOST_DATES];
        final int[] movedTo = new int[MOST_DATES];
        final int[] whole = new int[SIDES];
        /** Of each side, two bits a date. */
        final long[] given = new long[SIDES];

        /** The version stays. */
        void startAt(int newDay, int newMinute, int newLength, int newZone) {
            isThere = true;
            day = newDay;
            minute = newMinute;
            length = newLength;
            zone = newZone;
            whole[0] = 0;
            whole[1] = 0;
            setOnce();
        }

        private void setOnce() {
            kind = ONCE;
            n = 0;
            weekdays = 0;
            times = 1;
            forgetDates();
            addDate(day);
        }

        void setRule(int newKind, int newN, int newWeekdays, int newTimes) {
            if (newKind == ONCE) {
                setOnce();
                return;
            }
            kind = newKind;
            n = newN;
            weekdays = newKind == WEEKLY ? newWeekdays : 0;
            times = newTimes;
            forgetDates();
            if (newKind == DAILY) {
                listDays();
            } else if (newKind == WEEKLY) {
                listWeeks();
            } else {
                listMonths();
            }
        }

        private void forgetDates() {
            dates = 0;
            cancelled = 0;
            moved = 0;
            given[0] = 0;
            given[1] = 0;
        }

        void vanish() {
            isThere = false;
            version = NONE;
        }

        void become(Event other) {
            isThere = other.isThere;
            day = other.day;
            minute = other.minute;
            length = other.length;
            zone = other.zone;
            kind = other.kind;
            n = other.n;
            weekdays = other.weekdays;
            times = other.times;
            version = other.version;
            dates = other.dates;
            cancelled = other.cancelled;
            moved = other.moved;
            System.arraycopy(other.ruleDay, 0, ruleDay, 0, MOST_DATES);
            System.arraycopy(other.movedTo, 0, movedTo, 0, MOST_DATES);
            System.arraycopy(other.whole, 0, whole, 0, SIDES);
            System.arraycopy(other.given, 0, given, 0, SIDES);
        }

        private void addDate(int onDay) {
            if (dates < times && dates < MOST_DATES && onDay >= 0 && onDay <= Days.LAST) {
                ruleDay[dates] = onDay;
                dates++;
            }
        }

        private void listDays() {
            for (int k = 0; k < times; k++) {
                addDate(day + k * n);
            }
        }

        private void listWeeks() {
            int firstWeek = day / Days.WEEK;
            for (int one = day; one <= Days.LAST && n > 0; one++) {
                boolean isRuledWeek = (one / Days.WEEK - firstWeek) % n == 0;
                if (isRuledWeek && hasBit(weekdays, Days.weekdayOf(one))) {
                    addDate(one);
                }
            }
        }

        private void listMonths() {
            int firstMonth = Days.yearOf(day) * Days.MONTHS + Days.monthOf(day);
            int dayOfMonth = Days.dayOfMonth(day);
            for (int k = 0; k < Days.MONTHS * Days.YEARS; k++) {
                addDate(Days.dayInMonth(firstMonth + k * n, dayOfMonth));
            }
        }

        boolean hasDate(int date) {
            return isWithin(date, 0, dates - 1);
        }

        int shownBits() {
            return isThere ? (1 << dates) - 1 & ~cancelled : 0;
        }

        boolean isShown(int date) {
            return hasBit(shownBits(), date);
        }

        void moveTo(int date, int newDay, int newMinute) {
            moved |= 1 << date;
            movedTo[date] = newDay * Days.MINUTES + newMinute;
        }

        int dayOf(int date) {
            return hasBit(moved, date) ? movedTo[date] / Days.MINUTES : ruleDay[date];
        }

        int minuteOf(int date) {
            return hasBit(moved, date) ? movedTo[date] % Days.MINUTES : minute;
        }

        int givenTo(int side, int date) {
            return (int) (given[side] >> 2 * date) & 3;
        }

        void giveTo(int side, int date, int answer) {
            given[side] = given[side] & ~(3L << 2 * date) | (long) answer << 2 * date;
        }

        int answerTo(int side, int date) {
            int own = givenTo(side, date);
            return own != 0 ? own : whole[side];
        }

        void takeAnswers(Event other, int side) {
            whole[side] = other.whole[side];
            given[side] = other.given[side] & (1L << 2 * dates) - 1;
        }
    }

    /** The zones and events of the store, or of a side. */
    private static final class Place {
        int zoneCount = 1;
        final Zone[] zones = {new Zone(), new Zone(), new Zone()};
        final Event[] events = {new Event(), new Event(), new Event(), new Event(),
            new Event(), new Event(), new Event(), new Event()};

        void clear() {
            zoneCount = 0;
            for (int zone = 0; zone < MOST_ZONES; zone++) {
                zones[zone].setTo(0, NONE, NONE);
            }
            for (int event = 0; event < MOST_EVENTS; event++) {
                events[event].vanish();
            }
        }

        void become(Place other) {
            becomeZones(other);
            for (int event = 0; event < MOST_EVENTS; event++) {
                events[event].become(other.events[event]);
            }
        }

        void becomeZones(Place other) {
            zoneCount = other.zoneCount;
            for (int zone = 0; zone < MOST_ZONES; zone++) {
                zones[zone].become(other.zones[zone]);
            }
        }

        boolean hasZone(int zone) {
            return isWithin(zone, 0, zoneCount - 1);
        }

        boolean hasEvent(int event) {
            return isWithin(event, 0, MOST_EVENTS - 1) && events[event].isThere;
        }

        int eventBits() {
            int bits = 0;
            for (int event = 0; event < MOST_EVENTS; event++) {
                if (events[event].isThere) {
                    bits |= 1 << event;
                }
            }
            return bits;
        }

        int momentOf(int event, int date) {
            Event one = events[event];
            return zones[one.zone].momentAt(one.dayOf(date), one.minuteOf(date));
        }

        boolean showsSame(Place other, int event) {
            Event mine = events[event];
            Event theirs = other.events[event];
            int shown = mine.shownBits();
            if (shown != theirs.shownBits()) {
                return false;
            }
            if (shown != 0 && mine.length != theirs.length) {
                return false;
            }
            for (int date = 0; date < MOST_DATES; date++) {
                if (hasBit(shown, date) && !showsSameDate(other, event, date)) {
                    return false;
                }
            }
            return true;
        }

        private boolean showsSameDate(Place other, int event, int date) {
            Event mine = events[event];
            Event theirs = other.events[event];
            return momentOf(event, date) == other.momentOf(event, date)
                && mine.answerTo(0, date) == theirs.answerTo(0, date)
                && mine.answerTo(1, date) == theirs.answerTo(1, date);
        }
    }

    private static final class Side {
        static final int ACCEPTED = 0;
        static final int MERGED = 1;
        static final int REFUSED = 2;
        static final int PULLS = 3;
        static final int OLD_PULLS = 4;
        static final int TOLD = 5;

        final Place copy = new Place();
        int token;
        int changed;
        int contentChanged;
        final int[] accounts = new int[ACCOUNTS];

        void become(Side other) {
            copy.become(other.copy);
            token = other.token;
            changed = other.changed;
            contentChanged = other.contentChanged;
            System.arraycopy(other.accounts, 0, accounts, 0, ACCOUNTS);
        }

        void beginWith(Place calendar) {
            copy.become(calendar);
            token = 0;
            changed = 0;
            contentChanged = 0;
            for (int what = 0; what < ACCOUNTS; what++) {
                accounts[what] = 0;
            }
        }

        void noteContent(int event) {
            changed |= 1 << event;
            contentChanged |= 1 << event;
        }

        void noteAnswers(int event) {
            changed |= 1 << event;
        }
    }

    /** All that an undo or a slot brings back. */
    private static final class Exchange {
        private static final int REMEMBERED = 8;

        int clock;
        final Place store = new Place();
        final Side[] sides = {new Side(), new Side()};
        /** The event that each of the latest changes concerned, at its clock modulo their number. */
        private final int[] concerned = new int[REMEMBERED];

        void become(Exchange other) {
            clock = other.clock;
            store.become(other.store);
            for (int side = 0; side < SIDES; side++) {
                sides[side].become(other.sides[side]);
            }
            System.arraycopy(other.concerned, 0, concerned, 0, REMEMBERED);
        }

        void beginWith(Place calendar) {
            clock = 0;
            store.become(calendar);
            for (int side = 0; side < SIDES; side++) {
                sides[side].beginWith(calendar);
            }
        }

        /** Returns the version of what was changed. */
        int countChange(int event) {
            clock++;
            concerned[clock & REMEMBERED - 1] = event;
            return clock;
        }

        boolean isTooOld(int token) {
            return token < clock - REMEMBERED;
        }

        int toldBehind(int token) {
            if (isTooOld(token)) {
                return store.eventBits();
            }
            int bits = 0;
            for (int back = 0; back < REMEMBERED; back++) {
                int change = clock - back;
                int event = concerned[change & REMEMBERED - 1];
                if (change > token && event != NONE) {
                    bits |= 1 << event;
                }
            }
            return bits;
        }

        /** Returns how many events were refused. */
        int pushFrom(int number) {
            Side side = sides[number];
            int refusedBefore = side.accounts[Side.REFUSED];
            for (int event = 0; event < MOST_EVENTS; event++) {
                if (hasBit(side.changed, event)) {
                    pushEvent(number, event);
                }
            }
            side.changed = 0;
            side.contentChanged = 0;
            return side.accounts[Side.REFUSED] - refusedBefore;
        }

        private void pushEvent(int number, int event) {
            Side side = sides[number];
            Event mine = side.copy.events[event];
            Event stored = store.events[event];
            // One that the store has not and one that had not come from it both have NONE.
            if (mine.version == stored.version) {
                accept(side, event);
            } else if (stored.isThere && !hasBit(side.contentChanged, event)) {
                stored.takeAnswers(mine, number);
                stored.version = countChange(event);
                mine.become(stored);
                side.accounts[Side.MERGED]++;
            } else {
                mine.become(stored);
                side.accounts[Side.REFUSED]++;
            }
        }

        private void accept(Side side, int event) {
            Event mine = side.copy.events[event];
            Event stored = store.events[event];
            if (!mine.isThere && !stored.isThere) {
                return;
            }
            int version = countChange(event);
            mine.version = mine.isThere ? version : NONE;
            stored.become(mine);
            side.accounts[Side.ACCEPTED]++;
        }

        /** Returns how many events were told. */
        int pullTo(int number) {
            Side side = sides[number];
            int told = Integer.bitCount(toldBehind(side.token));
            side.accounts[Side.PULLS]++;
            side.accounts[Side.OLD_PULLS] += isTooOld(side.token) ? 1 : 0;
            side.accounts[Side.TOLD] += told;
            side.copy.becomeZones(store);
            for (int event = 0; event < MOST_EVENTS; event++) {
                if (!hasBit(side.changed, event)) {
                    side.copy.events[event].become(store.events[event]);
                }
            }
            side.token = clock;
            return told;
        }
    }

    /** What was ahead of each of the latest acts. */
    private static final class History {
        private static final int MOST = 12;

        int count;
        private int next;
        private final Exchange[] rows = {new Exchange(), new Exchange(), new Exchange(),
            new Exchange(), new Exchange(), new Exchange(), new Exchange(), new Exchange(),
            new Exchange(), new Exchange(), new Exchange(), new Exchange()};

        void save(Exchange exchange) {
            rows[next].become(exchange);
            next = next < MOST - 1 ? next + 1 : 0;
            count = Math.min(MOST, count + 1);
        }

        void bringBack(Exchange exchange) {
            next = next > 0 ? next - 1 : MOST - 1;
            count--;
            exchange.become(rows[next]);
        }

        void forget() {
            count = 0;
        }
    }

    /** The dates that a place shows, in their order. */
    private static final class Agenda {
        private static final int MOST = MOST_EVENTS * MOST_DATES;
        /** Moments may be negative, by an offset and a summer; keys are not. */
        private static final int SHIFT = 1000;
        private static final int DATE_STEPS = 32;
        private static final int MOMENT_STEPS = DATE_STEPS * MOST_EVENTS;

        int count;
        /** The moment, the event and the date in one number, whose order is that of the agenda. */
        private final int[] keys = new int[MOST];
        private final int[] lengths = new int[MOST_EVENTS];

        void listAll(Place place) {
            count = 0;
            for (int event = 0; event < MOST_EVENTS; event++) {
                int shown = place.events[event].shownBits();
                lengths[event] = place.events[event].length;
                for (int date = 0; date < MOST_DATES; date++) {
                    if (hasBit(shown, date)) {
                        int moment = place.momentOf(event, date);
                        insert((moment + SHIFT) * MOMENT_STEPS + event * DATE_STEPS + date);
                    }
                }
            }
        }

        private void insert(int key) {
            if (count >= MOST) {
                return;
            }
            int at = count;
            while (at > 0 && keys[at - 1] > key) {
                keys[at] = keys[at - 1];
                at--;
            }
            keys[at] = key;
            count++;
        }

        int momentOf(int index) {
            return keys[index] / MOMENT_STEPS - SHIFT;
        }

        int eventOf(int index) {
            return keys[index] / DATE_STEPS % MOST_EVENTS;
        }

        int dateOf(int index) {
            return keys[index] % DATE_STEPS;
        }

        private int endOf(int index) {
            return momentOf(index) + lengths[eventOf(index)];
        }

        int countBefore(int moment) {
            int before = 0;
            while (before < count && momentOf(before) < moment) {
                before++;
            }
            return before;
        }

        int countOverlaps() {
            int pairs = 0;
            for (int one = 0; one < count; one++) {
                int end = endOf(one);
                for (int later = one + 1; later < count && momentOf(later) < end; later++) {
                    pairs++;
                }
            }
            return pairs;
        }

        /** The minutes of overlapping dates are counted once. */
        int countMinutes(int from, int to) {
            int minutes = 0;
            int counted = from;
            for (int index = 0; index < count; index++) {
                int start = Math.max(counted, momentOf(index));
                int end = Math.min(to, endOf(index));
                if (start < end) {
                    minutes += end - start;
                    counted = end;
                }
            }
            return minutes;
        }
    }

    /** The input buffer, and the tokens of its first bytes, one at a time. */
    private static final class Text {
        static final int END = 0;
        static final int WORD = 1;
        static final int NUMBER = 2;
        static final int SEMICOLON = 3;
        static final int MINUS = 4;
        static final int WRONG = 5;
        private static final int MOST_DIGITS = 4;
        private static final String WEEKDAYS = "motuwethfrsasu";

        int length;
        /** Of the token: what it is, where it starts, and its value if it is a number. */
        int kind;
        int start;
        int value;
        private final byte[] bytes = new byte[TEXT_BYTES];
        private int end;
        private int behind;

        void appendBytes(int four) {
            for (int shift = 24; shift >= 0; shift -= 8) {
                if (length < TEXT_BYTES) {
                    bytes[length] = (byte) (four >> shift);
                    length++;
                }
            }
        }

        void beginTokens(int newEnd) {
            end = Math.min(newEnd, TEXT_BYTES);
            behind = 0;
            step();
        }

        void step() {
            while (behind < end && isBlank(bytes[behind])) {
                behind++;
            }
            start = behind;
            value = 0;
            if (start >= end) {
                kind = END;
            } else if (isLetter(bytes[start])) {
                kind = WORD;
                while (behind < end && isLetter(bytes[behind])) {
                    behind++;
                }
            } else if (isDigit(bytes[start])) {
                while (behind < end && isDigit(bytes[behind])) {
                    // A number that is too long is not used, so it may wrap around.
                    value = value * 10 + bytes[behind] - '0';
                    behind++;
                }
                kind = behind - start > MOST_DIGITS ? WRONG : NUMBER;
            } else {
                kind = bytes[start] == ';' ? SEMICOLON : bytes[start] == '-' ? MINUS : WRONG;
                behind++;
            }
        }

        boolean isWord(String word) {
            if (kind != WORD || behind - start != word.length()) {
                return false;
            }
            for (int k = 0; k < word.length() && start + k < end; k++) {
                if (bytes[start + k] != word.charAt(k)) {
                    return false;
                }
            }
            return true;
        }

        /** NONE if the token is not one. */
        int weekday() {
            if (kind != WORD || behind - start != 2 || start + 1 >= end) {
                return NONE;
            }
            for (int day = 0; day < Days.WEEK; day++) {
                boolean isFirst = bytes[start] == WEEKDAYS.charAt(2 * day);
                if (isFirst && bytes[start + 1] == WEEKDAYS.charAt(2 * day + 1)) {
                    return day;
                }
            }
            return NONE;
        }

        private static boolean isBlank(byte sign) {
            return sign == ' ' || sign == '\n';
        }

        private static boolean isLetter(byte sign) {
            return 'a' <= sign && sign <= 'z';
        }

        private static boolean isDigit(byte sign) {
            return '0' <= sign && sign <= '9';
        }
    }

    /** Reads a calendar; all errors are met in the order of their positions, so it ends at the first. */
    private static final class Reader {
        private static final int SYNTAX = 1;
        private static final int RANGE = 2;
        private static final int TWICE = 3;
        private static final int LIMIT = 4;
        /** Above the statements of any text, and above the exceptions of any event. */
        private static final int MOST_ROUNDS = TEXT_BYTES + 1;

        final Place draft = new Place();
        int eventCount;
        int errorCode;
        int errorPosition = NONE;
        final Text text = new Text();
        private int number;
        private int weekdays;
        /** Those of the statement that is read; the draft's first ones ahead of any. */
        private Zone zone = draft.zones[0];
        private Event event = draft.events[0];

        boolean readCalendar(int length) {
            draft.clear();
            eventCount = 0;
            errorCode = 0;
            errorPosition = NONE;
            text.beginTokens(length);
            boolean isRead = true;
            for (int k = 0; k < MOST_ROUNDS && isRead && text.kind != Text.END; k++) {
                if (text.isWord("zone")) {
                    isRead = readZone() && readSummer() && takeSemicolon();
                } else if (text.isWord("event")) {
                    isRead = readEvent() && readRule() && readExceptions() && takeSemicolon();
                } else {
                    isRead = fail(SYNTAX);
                }
            }
            draft.zoneCount = Math.max(1, draft.zoneCount);
            return isRead;
        }

        private boolean fail(int code) {
            errorCode = code;
            errorPosition = text.start;
            return false;
        }

        private boolean takeSemicolon() {
            if (text.kind != Text.SEMICOLON) {
                return fail(SYNTAX);
            }
            text.step();
            return true;
        }

        private boolean takeNumber(int least, int most) {
            if (!seeNumber(least, most)) {
                return false;
            }
            text.step();
            return true;
        }

        private boolean seeNumber(int least, int most) {
            if (text.kind != Text.NUMBER) {
                return fail(SYNTAX);
            }
            number = text.value;
            return isWithin(number, least, most) || fail(RANGE);
        }

        private boolean readZone() {
            if (draft.zoneCount >= MOST_ZONES) {
                return fail(LIMIT);
            }
            zone = draft.zones[draft.zoneCount];
            draft.zoneCount++;
            text.step();
            boolean isNegative = text.kind == Text.MINUS;
            if (isNegative) {
                text.step();
            }
            if (!takeNumber(0, MOST_OFFSET)) {
                return false;
            }
            zone.setTo(isNegative ? -number : number, NONE, NONE);
            return true;
        }

        private boolean readSummer() {
            if (!text.isWord("summer")) {
                return true;
            }
            text.step();
            if (!takeNumber(0, Days.YEAR - 1)) {
                return false;
            }
            int first = number;
            if (!takeNumber(first, Days.YEAR - 1)) {
                return false;
            }
            zone.setTo(zone.offset, first, number);
            return true;
        }

        private boolean readEvent() {
            if (eventCount >= MOST_EVENTS) {
                return fail(LIMIT);
            }
            event = draft.events[eventCount];
            eventCount++;
            text.step();
            if (!takeNumber(0, Days.LAST)) {
                return false;
            }
            int day = number;
            if (!takeNumber(0, Days.MINUTES - 1)) {
                return false;
            }
            int minute = number;
            if (!takeNumber(1, MOST_LENGTH)) {
                return false;
            }
            int length = number;
            if (!takeNumber(0, draft.zoneCount - 1)) {
                return false;
            }
            event.startAt(day, minute, length, number);
            event.version = 0;
            return true;
        }

        private boolean readRule() {
            if (!text.isWord("every")) {
                return true;
            }
            text.step();
            if (!takeNumber(1, MOST_INTERVAL)) {
                return false;
            }
            int n = number;
            int kind = unitKind();
            if (kind == NONE) {
                return fail(SYNTAX);
            }
            text.step();
            weekdays = 0;
            if (kind == WEEKLY && !takeWeekdays()) {
                return false;
            }
            if (!text.isWord("times")) {
                return fail(SYNTAX);
            }
            text.step();
            if (!takeNumber(1, MOST_DATES)) {
                return false;
            }
            event.setRule(kind, n, weekdays, number);
            return true;
        }

        private int unitKind() {
            if (text.isWord("days")) {
                return DAILY;
            }
            if (text.isWord("weeks")) {
                return WEEKLY;
            }
            return text.isWord("months") ? MONTHLY : NONE;
        }

        private boolean takeWeekdays() {
            // The eighth one at the latest stands there twice.
            for (int k = 0; k <= Days.WEEK; k++) {
                int weekday = text.weekday();
                if (weekday == NONE) {
                    return weekdays != 0 || fail(SYNTAX);
                }
                if (hasBit(weekdays, weekday)) {
                    return fail(TWICE);
                }
                weekdays |= 1 << weekday;
                text.step();
            }
            return true;
        }

        private boolean readExceptions() {
            for (int k = 0; k < MOST_ROUNDS; k++) {
                boolean isNot = text.isWord("not");
                if (!isNot && !text.isWord("move")) {
                    return true;
                }
                text.step();
                if (!(isNot ? readNot() : readMove())) {
                    return false;
                }
            }
            return true;
        }

        private boolean readNot() {
            if (!seeNumber(0, event.dates - 1)) {
                return false;
            }
            if (hasBit(event.cancelled, number)) {
                return fail(TWICE);
            }
            event.cancelled |= 1 << number;
            text.step();
            return true;
        }

        private boolean readMove() {
            if (!takeNumber(0, event.dates - 1)) {
                return false;
            }
            int date = number;
            if (!takeNumber(0, Days.LAST)) {
                return false;
            }
            int day = number;
            if (!takeNumber(0, Days.MINUTES - 1)) {
                return false;
            }
            event.moveTo(date, day, number);
            return true;
        }
    }
}
