import java.util.ArrayList;
import java.util.Arrays;
import java.util.List;

/**
 * Each exception of each promise: values at a bound and beyond it for all parameters at once, the one
 * that is listed first where several apply, and that nothing has changed behind a call that throws.
 */
final class RefusalTests {
    private static final int NONE = CalendarSync.NONE;
    private static final int LEAST = Integer.MIN_VALUE;
    private static final int MOST = Integer.MAX_VALUE;
    private static final String ARGUMENT = "IllegalArgumentException";
    private static final String ELEMENT = "NoSuchElementException";
    private static final String INDEX = "IndexOutOfBoundsException";
    private static final String STATE = "IllegalStateException";

    /** Side 0 has the events 0, 1, 4 (it has removed 2 and made 4), side 1 and the store 0, 1, 2. */
    private static final String CALENDAR = "zone 60 summer 90 300;zone -30;"
        + "event 3 540 45 0 every 1 days times 4 not 1 move 2 7 8;event 1094 0 1 1 every 1 weeks mo times 3;event 9 9 9 1;";
    /** What is in the buffer, 20 bytes long: with ";" behind it, it is a calendar. */
    private static final String REST = "zone 8;event 0 0 1 0";
    private static final int ACTS = 7;

    /** In each row the first value is a right one, with which the others of the call are tried alone. */
    private static final int[] PLACES = {0, 1, 2, -1, 3, LEAST, MOST};
    private static final int[] SIDES = {0, 1, -1, 2, LEAST, MOST};
    private static final int[] ZONES = {0, 1, -1, 2, LEAST, MOST};
    private static final int[] EVENTS = {0, 1, 2, 4, 7, -1, 8, LEAST, MOST};
    private static final int[] DATES = {0, 3, -1, 4, 30, 32, LEAST, MOST};
    private static final int[] DAYS = {0, 1094, -1, 1095, LEAST, MOST};
    private static final int[] MINUTES = {0, 1439, -1, 1440, LEAST, MOST};

    /** A call of the face with these parameters. */
    private interface Face {
        long call(CalendarSync x, int[] p);
    }

    /** What the document says that the call throws, "" if nothing. */
    private interface Due {
        String of(int[] p);
    }

    private interface Maker {
        CalendarSync make();
    }

    private final Checks checks = new Checks();
    private Maker maker = RefusalTests::exchange;
    private String before;
    private List<String> traces;

    public static void main(String[] args) {
        RefusalTests tests = new RefusalTests();
        tests.remake(RefusalTests::exchange);
        tests.made();
        tests.feed();
        tests.load();
        tests.loadOfErrors();
        tests.undo();
        tests.remake(RefusalTests::exchange);
        tests.days();
        tests.zones();
        tests.events();
        tests.agendas();
        tests.busy();
        tests.sides();
        tests.create();
        tests.repeat();
        tests.cancelAndRemove();
        tests.move();
        tests.reply();
        tests.setZone();
        tests.exchanges();
        tests.slots();
        tests.checks.end();
    }

    // ---- the object that the calls are tried on

    private static CalendarSync exchange() {
        CalendarSync x = Feeding.of(CALENDAR);
        x.reply(1, 0, NONE, 2);
        x.sync(1);
        x.cancel(0, 0, 0);
        x.keep(0);
        x.remove(0, 2);
        x.create(0, 4, 1, 2, 3, 1);
        x.move(1, 0, 3, 20, 0);
        x.setZone(1, -45, 5, 6);
        Checks.outcome(() -> Feeding.loadText(x, "zone 721;"));
        Feeding.feedText(x, REST);
        return x;
    }

    private void remake(Maker newMaker) {
        maker = newMaker;
        before = Picture.of(maker.make());
        traces = traces(CalendarSync::clock);
    }

    /** The object is what the tests need: with something to undo, to push, to restore and to parse. */
    private void made() {
        CalendarSync x = maker.make();
        checks.same("side 0", 0x13, x.events(0));
        checks.same("side 1", 7, x.events(1));
        checks.same("store", 7, x.events(2));
        checks.same("changed", 0x15, x.side(0, 1));
        checks.same("changed", 1, x.side(1, 1));
        checks.same("clock", 2, x.clock());
        checks.same("error", 2, x.errorCode());
        checks.same("acts", ACTS - 1, x.undo());
        checks.element("slot 1", () -> x.restore(1));
        checks.same("buffer", 40, x.feed(0, 0, 0, 0, 0));
    }

    // ---- how a call is tried

    private static boolean within(int number, int least, int most) {
        return number >= least && number <= most;
    }

    /** Events that this object has there. */
    private static boolean hasEvent(int place, int event) {
        return within(event, 0, 1) || event == (place == 0 ? 4 : 2);
    }

    private static boolean hasDate(int event, int date) {
        return within(date, 0, event == 0 ? 3 : event == 1 ? -1 : 0);
    }

    private void sweep(String name, Face face, Due due, int[]... values) {
        int[] at = new int[values.length];
        int turned = 0;
        while (turned >= 0) {
            int[] p = new int[at.length];
            int others = 0;
            for (int k = 0; k < at.length; k++) {
                p[k] = values[k][at[k]];
                others += at[k] == 0 ? 0 : 1;
            }
            attempt(name + Arrays.toString(p), x -> face.call(x, p), due.of(p), others <= 1);
            turned = at.length - 1;
            while (turned >= 0 && at[turned] == values[turned].length - 1) {
                at[turned] = 0;
                turned--;
            }
            if (turned >= 0) {
                at[turned]++;
            }
        }
    }

    private interface Act {
        long of(CalendarSync x);
    }

    private void attempt(String name, Act act, String due, boolean isTracedWhole) {
        CalendarSync x = maker.make();
        String outcome = Checks.outcome(() -> act.of(x));
        if (due.isEmpty()) {
            checks.holds(name + " throws " + outcome, !outcome.endsWith("Exception"));
            return;
        }
        checks.holds(name + ": due is " + due + ", got " + outcome, due.equals(outcome));
        checks.holds(name + " has changed nothing", before.equals(Picture.of(x)));
        if (isTracedWhole) {
            List<String> got = traces(act);
            for (int k = 0; k < traces.size(); k++) {
                checks.holds(name + " has changed nothing of trace " + k, traces.get(k).equals(got.get(k)));
            }
        }
    }

    /**
     * What cannot be asked without a change, each on an object of its own behind the act: the states
     * that come back by undo(), those of the slots, and what is in the buffer.
     */
    private List<String> traces(Act act) {
        List<String> all = new ArrayList<>();
        for (int acts = 1; acts <= ACTS + 1; acts++) {
            CalendarSync x = behind(act);
            StringBuilder left = new StringBuilder();
            for (int k = 0; k < acts; k++) {
                left.append(Checks.outcome(x::undo)).append(' ');
            }
            all.add(left + Picture.of(x));
        }
        for (int k = 0; k < 2; k++) {
            int slot = k;
            CalendarSync x = behind(act);
            String restored = Checks.outcome(() -> x.restore(slot));
            all.add(restored + ' ' + Checks.outcome(x::undo) + ' ' + Picture.of(x));
        }
        CalendarSync x = behind(act);
        String fed = Checks.outcome(() -> x.feed(0x3b202020, 0x20202020, 0x20202020, 0x20202020, 0x20202020));
        String length = fed.endsWith("Exception") ? "800" : fed;
        String loaded = Checks.outcome(() -> x.load(Integer.parseInt(length)));
        all.add(fed + ' ' + loaded + ' ' + Picture.of(x));
        return all;
    }

    private CalendarSync behind(Act act) {
        CalendarSync x = maker.make();
        Checks.outcome(() -> act.of(x));
        return x;
    }

    // ---- 2, 3 and 32: what depends on the buffer, and on what can be undone

    private static CalendarSync nearlyFullBuffer() {
        CalendarSync x = exchange();
        Feeding.feedText(x, ";" + " ".repeat(759));
        return x;
    }

    private static CalendarSync fullBuffer() {
        CalendarSync x = nearlyFullBuffer();
        Feeding.feedText(x, " ".repeat(20));
        return x;
    }

    private void feed() {
        remake(RefusalTests::nearlyFullBuffer);
        attempt("2 feed to 800", x -> x.feed(0, 0, 0, 0, 0), "", false);
        remake(RefusalTests::fullBuffer);
        attempt("2 feed beyond 800", x -> x.feed(0, 0, 0, 0, 0), STATE, true);
        attempt("2 feed beyond 800", x -> x.feed(0x20202020, 0x20202020, 0x20202020, 0x20202020, 0x20202020), STATE, true);
        attempt("2 feed beyond 800", x -> x.feed(0x7a6f6e65, 0x20393b20, MOST, LEAST, NONE), STATE, true);
        CalendarSync x = maker.make();
        Checks.outcome(() -> x.feed(0x7a6f6e65, 0x20393b20, 0, 0, 0));
        checks.same("2 what was there ahead of it is parsed", 1, x.load(800));
        checks.same("2 the one zone of it", 8, x.zone(2, 0, 0));
        checks.same("2 has room again", 20, x.feed(0, 0, 0, 0, 0));
    }

    private void load() {
        remake(RefusalTests::exchange);
        sweep("3 load", (x, p) -> x.load(p[0]), p -> within(p[0], 0, 20) ? "" : ARGUMENT,
            new int[] {0, 7, -1, 21, 40, 800, 801, LEAST, MOST});
        remake(RefusalTests::fullBuffer);
        sweep("3 load of 800", (x, p) -> x.load(p[0]), p -> within(p[0], 0, 800) ? "" : ARGUMENT,
            new int[] {800, 21, 801, -1, 820, LEAST, MOST});
    }

    /** Only the buffer and the error change. */
    private void loadOfErrors() {
        remake(RefusalTests::exchange);
        // The sign ^ marks the position of the error; REST stands ahead of each text.
        String[] texts = {";^x", ";zone 1;zone 2;^zone 3;zone 4;", ";zone 1;event 1 2 3 0 every 1 weeks mo ^mo times 1;",
            ";zone 1 summer 7 8;event 1 2 3 0;event 4 5 6 0;event 7 8 9 0 not ^1;", ";zone 9;event 0 0 1 0 every 1 days times 30^"};
        int[] codes = {1, 4, 3, 2, 1};
        for (int k = 0; k < texts.length; k++) {
            String text = texts[k].replace("^", "");
            Act act = x -> {
                Feeding.feedText(x, text);
                return x.load(20 + text.length());
            };
            CalendarSync x = maker.make();
            checks.answers("3 " + text, STATE, () -> act.of(x));
            checks.same("4 errorCode of " + text, codes[k], x.errorCode());
            checks.same("5 errorPosition of " + text, 20 + texts[k].indexOf('^'), x.errorPosition());
            checks.argument("3 the buffer is empty behind " + text, () -> x.load(1));
            sameButError("3 " + text, before, Picture.of(x));
            List<String> got = traces(act);
            for (int t = 0; t < ACTS + 3; t++) {
                sameButError("3 " + text + ", trace " + t, traces.get(t), got.get(t));
            }
            checks.same("3 the buffer is empty behind " + text, 20, behind(act).feed(0, 0, 0, 0, 0));
        }
    }

    private void sameButError(String what, String due, String got) {
        String error = "error -?\\d+ -?\\d+ clock";
        checks.holds(what + " has changed nothing else", due.replaceFirst(error, "").equals(got.replaceFirst(error, "")));
    }

    private static CalendarSync nothingToUndo() {
        CalendarSync x = exchange();
        x.restore(0);
        return x;
    }

    private static CalendarSync allUndone() {
        CalendarSync x = exchange();
        for (int k = 0; k < ACTS; k++) {
            x.undo();
        }
        return x;
    }

    private void undo() {
        remake(RefusalTests::nothingToUndo);
        attempt("32 undo behind a restore", CalendarSync::undo, STATE, true);
        remake(RefusalTests::allUndone);
        attempt("32 undo of nothing", CalendarSync::undo, STATE, true);
        remake(CalendarSync::new);
        attempt("32 undo of a new one", CalendarSync::undo, STATE, true);
        remake(RefusalTests::exchange);
        attempt("32 undo", CalendarSync::undo, "", false);
    }

    // ---- 6 to 12

    private void days() {
        sweep("6 day", (x, p) -> x.day(p[0], p[1]), p -> within(p[0], 0, 1094) && within(p[1], 0, 3) ? "" : ARGUMENT,
            DAYS, new int[] {0, 3, -1, 4, LEAST, MOST});
    }

    private void zones() {
        sweep("7 zone", (x, p) -> x.zone(p[0], p[1], p[2]),
            p -> !within(p[0], 0, 2) ? ARGUMENT : !within(p[1], 0, 1) ? ELEMENT : !within(p[2], 0, 3) ? INDEX : "",
            PLACES, ZONES, new int[] {0, 3, -1, 4, LEAST, MOST});
        sweep("8 moment", (x, p) -> x.moment(p[0], p[1], p[2], p[3]),
            p -> !within(p[0], 0, 2) || !within(p[2], 0, 1094) || !within(p[3], 0, 1439) ? ARGUMENT
                : !within(p[1], 0, 1) ? ELEMENT : "",
            PLACES, ZONES, DAYS, MINUTES);
    }

    private void events() {
        sweep("9 events", (x, p) -> x.events(p[0]), p -> within(p[0], 0, 2) ? "" : ARGUMENT, PLACES);
        sweep("10 event", (x, p) -> x.event(p[0], p[1], p[2]),
            p -> !within(p[0], 0, 2) ? ARGUMENT : !hasEvent(p[0], p[1]) ? ELEMENT : !within(p[2], 0, 11) ? INDEX : "",
            PLACES, EVENTS, new int[] {0, 11, -1, 12, LEAST, MOST});
        sweep("11 date", (x, p) -> x.date(p[0], p[1], p[2], p[3]),
            p -> !within(p[0], 0, 2) ? ARGUMENT : !hasEvent(p[0], p[1]) ? ELEMENT
                : !hasDate(p[1], p[2]) || !within(p[3], 0, 6) ? INDEX : "",
            PLACES, EVENTS, DATES, new int[] {0, 6, -1, 7, LEAST, MOST});
        sweep("12 answer", (x, p) -> x.answer(p[0], p[1], p[2]),
            p -> !within(p[0], 0, 2) || !within(p[2], 0, 1) ? ARGUMENT : !hasEvent(p[0], p[1]) ? ELEMENT : "",
            PLACES, EVENTS, SIDES);
    }

    // ---- 13 to 18

    private void agendas() {
        int[] moments = {0, -1, 1094 * 1440, LEAST, MOST};
        sweep("13 agenda", (x, p) -> x.agenda(p[0], p[1], p[2]), p -> within(p[0], 0, 2) ? "" : ARGUMENT,
            PLACES, moments, moments);
        // Two dates of event 0 are shown at side 0, three elsewhere, and one of event 4, or of event 2.
        sweep("14 agendaAt", (x, p) -> x.agendaAt(p[0], p[1], p[2], p[3]),
            p -> !within(p[0], 0, 2) ? ARGUMENT
                : p[1] > 0 || !within(p[2], 0, p[0] == 0 ? 2 : 3) ? ELEMENT : !within(p[3], 0, 2) ? INDEX : "",
            PLACES, moments, new int[] {0, 2, 3, 4, -1, LEAST, MOST}, new int[] {0, 2, -1, 3, LEAST, MOST});
        sweep("15 clashes", (x, p) -> x.clashes(p[0]), p -> within(p[0], 0, 2) ? "" : ARGUMENT, PLACES);
        sweep("18 isSame", (x, p) -> x.isSame(p[0]) ? 1 : 0, p -> within(p[0], 0, 1) ? "" : ARGUMENT, SIDES);
    }

    private void busy() {
        int[] from = {0, 1, -1, 100000, LEAST, MOST, MOST - 100000, -100000};
        int[] to = {1, 100000, 100001, 0, 2, -1, LEAST, MOST, LEAST + 1, LEAST + 100000, LEAST + 100001};
        Due due = p -> within(p[0], 0, 2) && (long) p[2] - p[1] >= 1 && (long) p[2] - p[1] <= 100000 ? "" : ARGUMENT;
        sweep("16 busy", (x, p) -> (long) (x.busy(p[0], p[1], p[2]) * 1000), due, PLACES, from, to);
        sweep("17 busyBits", (x, p) -> x.busyBits(p[0], p[1], p[2]), due, PLACES, from, to);
    }

    // ---- 20 and 21

    private void sides() {
        sweep("20 side", (x, p) -> x.side(p[0], p[1]), p -> within(p[0], 0, 1) && within(p[1], 0, 4) ? "" : ARGUMENT,
            SIDES, new int[] {0, 4, -1, 5, LEAST, MOST});
        sweep("21 account", (x, p) -> x.account(p[0], p[1]), p -> within(p[0], 0, 1) && within(p[1], 0, 5) ? "" : ARGUMENT,
            SIDES, new int[] {0, 5, -1, 6, LEAST, MOST});
    }

    // ---- 22 to 27

    private void create() {
        sweep("22 create", (x, p) -> x.create(p[0], p[1], p[2], p[3], p[4], p[5]),
            p -> !within(p[0], 0, 1) || !within(p[1], 0, 7) || !within(p[2], 0, 1094) || !within(p[3], 0, 1439)
                || !within(p[4], 1, 1440) ? ARGUMENT : !within(p[5], 0, 1) ? ELEMENT : hasEvent(p[0], p[1]) ? STATE : "",
            new int[] {0, 1, -1, 2}, new int[] {7, 3, 0, 2, 4, -1, 8}, new int[] {0, 1094, -1, 1095},
            new int[] {0, 1439, -1, 1440}, new int[] {1, 1440, 0, 1441}, new int[] {0, 1, -1, 2});
        int[] far = {0, LEAST, MOST};
        sweep("22 create", (x, p) -> x.create(p[0], p[1], p[2], p[3], p[4], p[5]),
            p -> p[0] != 0 || p[1] != 7 || p[2] != 0 || p[3] != 0 || p[4] != 1 ? ARGUMENT : p[5] != 0 ? ELEMENT : "",
            far, new int[] {7, LEAST, MOST}, far, far, new int[] {1, LEAST, MOST}, far);
    }

    private void repeat() {
        Due due = p -> !within(p[0], 0, 1) || !within(p[2], 0, 3) || p[2] != 0 && (!within(p[3], 1, 9) || !within(p[5], 1, 30))
            || p[2] == 2 && !within(p[4], 1, 127) ? ARGUMENT : !hasEvent(p[0], p[1]) ? ELEMENT : "";
        for (int kind = 0; kind <= 3; kind++) {
            sweep("23 repeat", (x, p) -> x.repeat(p[0], p[1], p[2], p[3], p[4], p[5]), due,
                new int[] {0, 2}, new int[] {0, 7}, new int[] {kind, -1, 4}, new int[] {1, 9, 0, 10},
                new int[] {1, 127, 0, 128, -1}, new int[] {1, 30, 0, 31});
        }
        sweep("23 repeat", (x, p) -> x.repeat(p[0], p[1], p[2], p[3], p[4], p[5]), due,
            SIDES, EVENTS, new int[] {2, 0, LEAST, MOST}, new int[] {1, LEAST, MOST}, new int[] {1, LEAST, MOST},
            new int[] {1, LEAST, MOST});
    }

    private void cancelAndRemove() {
        sweep("24 cancel", (x, p) -> x.cancel(p[0], p[1], p[2]),
            p -> !within(p[0], 0, 1) ? ARGUMENT : !hasEvent(p[0], p[1]) ? ELEMENT : !hasDate(p[1], p[2]) ? INDEX : "",
            SIDES, EVENTS, DATES);
        sweep("27 remove", (x, p) -> x.remove(p[0], p[1]),
            p -> !within(p[0], 0, 1) ? ARGUMENT : !hasEvent(p[0], p[1]) ? ELEMENT : "", SIDES, EVENTS);
    }

    private void move() {
        sweep("25 move", (x, p) -> x.move(p[0], p[1], p[2], p[3], p[4]),
            p -> !within(p[0], 0, 1) || p[3] != NONE && (!within(p[3], 0, 1094) || !within(p[4], 0, 1439)) ? ARGUMENT
                : !hasEvent(p[0], p[1]) ? ELEMENT : !hasDate(p[1], p[2]) ? INDEX : "",
            new int[] {0, 1, -1, 2}, EVENTS, DATES, new int[] {0, 1094, NONE, -2, 1095, LEAST, MOST}, MINUTES);
    }

    private void reply() {
        sweep("26 reply", (x, p) -> x.reply(p[0], p[1], p[2], p[3]),
            p -> !within(p[0], 0, 1) || !within(p[3], 0, 3) ? ARGUMENT
                : !hasEvent(p[0], p[1]) ? ELEMENT : p[2] != NONE && !hasDate(p[1], p[2]) ? INDEX : "",
            SIDES, EVENTS, new int[] {0, 3, NONE, -2, 1, 4, 30, LEAST, MOST}, new int[] {0, 3, -1, 4, LEAST, MOST});
    }

    // ---- 28 to 31, 33 and 34

    private void setZone() {
        sweep("28 setZone", (x, p) -> x.setZone(p[0], p[1], p[2], p[3]),
            p -> !within(p[0], 0, 1) ? ELEMENT : !within(p[1], -720, 720)
                || p[2] != NONE && (!within(p[2], 0, 364) || !within(p[3], p[2], 364)) ? ARGUMENT : "",
            ZONES, new int[] {-720, 720, -721, 721, LEAST, MOST}, new int[] {10, 0, 364, NONE, -2, 365, LEAST, MOST},
            new int[] {364, 0, 9, 10, 11, 365, -1, LEAST, MOST});
    }

    private void exchanges() {
        Due due = p -> within(p[0], 0, 1) ? "" : ARGUMENT;
        sweep("29 push", (x, p) -> x.push(p[0]), due, SIDES);
        sweep("30 pull", (x, p) -> x.pull(p[0]), due, SIDES);
        sweep("31 sync", (x, p) -> x.sync(p[0]), due, SIDES);
    }

    private void slots() {
        sweep("33 keep", (x, p) -> x.keep(p[0]), p -> within(p[0], 0, 1) ? "" : ARGUMENT, SIDES);
        sweep("34 restore", (x, p) -> x.restore(p[0]), p -> !within(p[0], 0, 1) ? ARGUMENT : p[0] == 1 ? ELEMENT : "", SIDES);
    }
}
