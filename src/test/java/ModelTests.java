import java.util.Random;

/**
 * Random runs of calls, whose answers are those of the model. The seeds are written here, so each run is
 * the same. What an object answers behind its 512th call is free, so it is not asked any more then.
 */
final class ModelTests {
    private static final int RUNS = 20000;
    private static final int TEXTS = 40000;
    private static final int CALLS = 512;
    /** A text is fed by 40 calls at most, and is looked at behind that. */
    private static final int CALLS_OF_A_TEXT = 200;

    private final Checks checks = new Checks();
    private Random random;
    private CalendarSync sync;
    private Model model;
    private int calls;

    public static void main(String[] args) {
        ModelTests tests = new ModelTests();
        tests.texts();
        for (int run = 0; run < RUNS; run++) {
            tests.run(run);
        }
        tests.checks.end();
    }

    private void begin() {
        sync = new CalendarSync();
        model = new Model();
        calls = 0;
    }

    // ---- texts

    private void texts() {
        random = new Random(7);
        for (int k = 0; k < TEXTS; k++) {
            if (k == 0 || calls > CALLS - CALLS_OF_A_TEXT) {
                begin();
            }
            String text = text();
            for (int damages = random.nextInt(3); damages > 0; damages--) {
                text = damaged(text);
            }
            load(text);
        }
    }

    private void load(String text) {
        String shortText = text.length() > 800 ? text.substring(0, 800) : text;
        for (int at = 0; at < shortText.length(); at += 20) {
            int[] w = new int[5];
            for (int k = 0; k < 5; k++) {
                w[k] = Feeding.four(shortText, at + 4 * k);
            }
            same("feed", () -> sync.feed(w[0], w[1], w[2], w[3], w[4]), () -> model.feed(w[0], w[1], w[2], w[3], w[4]));
        }
        int length = shortText.length();
        same("load " + shortText, () -> sync.load(length), () -> model.load(length));
        same("errorCode " + shortText, () -> sync.errorCode(), () -> model.errorCode());
        same("errorPosition " + shortText, () -> sync.errorPosition(), () -> model.errorPosition());
        look("after " + shortText, CALLS_OF_A_TEXT / 2);
    }

    private String text() {
        StringBuilder text = new StringBuilder();
        int zones = random.nextInt(20) == 0 ? random.nextInt(5) : 1 + random.nextInt(3);
        for (int k = 0; k < zones; k++) {
            text.append("zone ").append(random.nextInt(3) == 0 ? "-" : "").append(number(0, 720));
            if (random.nextInt(3) > 0) {
                int first = number(0, 364);
                text.append(" summer ").append(first).append(' ').append(number(first, 364));
            }
            text.append(';');
        }
        int events = random.nextInt(20) == 0 ? 9 : random.nextInt(7);
        for (int k = 0; k < events; k++) {
            event(text, Math.max(1, zones));
        }
        return text.toString();
    }

    private void event(StringBuilder text, int zones) {
        int late = random.nextInt(4) == 0 ? 1000 : 0;
        text.append("event ").append(late + random.nextInt(1095 - late)).append(' ').append(number(0, 1439));
        text.append(' ').append(number(1, 1440)).append(' ').append(random.nextInt(zones));
        int dates = 1;
        if (random.nextInt(4) > 0) {
            text.append(" every ").append(number(1, 9));
            text.append(new String[] {" days", " weeks", " months"}[random.nextInt(3)]);
            if (text.charAt(text.length() - 3) == 'e') {
                text.append(weekdays());
            }
            dates = number(1, 30);
            text.append(" times ").append(dates);
        }
        for (int k = random.nextInt(4); k > 0; k--) {
            int date = random.nextInt(dates);
            if (random.nextBoolean()) {
                text.append(" not ").append(date);
            } else {
                text.append(" move ").append(date).append(' ').append(number(0, 1094)).append(' ').append(number(0, 1439));
            }
        }
        text.append(";\n");
    }

    private String weekdays() {
        StringBuilder text = new StringBuilder();
        int bits = 1 + random.nextInt(127);
        for (int day = 0; day < 7; day++) {
            if ((bits & 1 << day) != 0) {
                text.append(' ').append("motuwethfrsasu", 2 * day, 2 * day + 2);
            }
        }
        return text.toString();
    }

    /** Within the bounds, and often one of them. */
    private int number(int least, int most) {
        int kind = random.nextInt(12);
        return kind == 0 ? least : kind == 1 ? most : least + random.nextInt(most - least + 1);
    }

    private String damaged(String text) {
        StringBuilder to = new StringBuilder(text);
        int at = text.isEmpty() ? 0 : random.nextInt(text.length());
        String[] pieces = {" ", "\n", ";", "-", "zone", " mo", " not 0", " not 1", " move 0 0 0", "0", "9", "summer", "event",
            "x", "A", "\t", "\u0000", "\u00ff", " 1440", " 1095", " 0", "times"};
        switch (random.nextInt(4)) {
            case 0:
                to.insert(at, pieces[random.nextInt(pieces.length)]);
                break;
            case 1:
                to.setLength(at);
                break;
            case 2:
                to.delete(at, Math.min(text.length(), at + 1 + random.nextInt(4)));
                break;
            default:
                to.replace(at, Math.min(text.length(), at + 1), pieces[random.nextInt(pieces.length)]);
                break;
        }
        return to.toString();
    }

    // ---- runs

    private void run(int run) {
        random = new Random(1000 + run);
        begin();
        StringBuilder told = new StringBuilder("run " + run + " call ");
        int base = told.length();
        if (random.nextInt(8) > 0) {
            load(text());
        }
        int events = 1 + random.nextInt(8);
        // Many acts and a look at the end, or fewer ones with questions between them.
        boolean isAsked = random.nextBoolean();
        int acts = random.nextInt(CALLS);
        while (calls < CALLS) {
            told.setLength(base);
            act(told.append(calls).append(' ').toString(), events);
            if (isAsked) {
                ask(told.toString());
            }
            if (isAsked ? random.nextInt(8) == 0 : calls > acts) {
                look(told.toString(), isAsked ? 60 : CALLS);
            }
        }
    }

    private void act(String told, int events) {
        int s = random.nextInt(60) == 0 ? 2 : random.nextInt(2);
        int e = random.nextInt(40) == 0 ? random.nextInt(11) - 1 : random.nextInt(events);
        int d = random.nextInt(3) == 0 ? random.nextInt(33) - 1 : random.nextInt(4);
        switch (random.nextInt(22)) {
            case 0:
            case 1:
            case 2:
                create(told, s, e);
                break;
            case 3:
            case 4:
                repeat(told, s, e);
                break;
            case 5:
            case 6:
                same(told + "cancel", () -> sync.cancel(s, e, d), () -> model.cancel(s, e, d));
                break;
            case 7:
            case 8:
                move(told, s, e, d);
                break;
            case 9:
            case 10:
            case 11:
                int a = random.nextInt(30) == 0 ? 4 : random.nextInt(4);
                int to = random.nextInt(3) == 0 ? -1 : d;
                same(told + "reply", () -> sync.reply(s, e, to, a), () -> model.reply(s, e, to, a));
                break;
            case 12:
                same(told + "remove", () -> sync.remove(s, e), () -> model.remove(s, e));
                break;
            case 13:
                setZone(told);
                break;
            case 14:
            case 15:
            case 16:
                same(told + "push", () -> sync.push(s), () -> model.push(s));
                break;
            case 17:
                same(told + "pull", () -> sync.pull(s), () -> model.pull(s));
                break;
            case 18:
                same(told + "sync", () -> sync.sync(s), () -> model.sync(s));
                break;
            case 19:
                for (int k = random.nextInt(3); k > 0; k--) {
                    same(told + "undo", () -> sync.undo(), () -> model.undo());
                }
                break;
            default:
                slots(told);
                break;
        }
    }

    private void create(String told, int s, int e) {
        int day = around(0, 1094);
        int minute = around(0, 1439);
        int length = around(1, 1440);
        int zone = random.nextInt(8) == 0 ? random.nextInt(5) - 1 : 0;
        same(told + "create", () -> sync.create(s, e, day, minute, length, zone),
            () -> model.create(s, e, day, minute, length, zone));
    }

    private void repeat(String told, int s, int e) {
        int kind = random.nextInt(40) == 0 ? random.nextInt(6) - 1 : random.nextInt(4);
        int n = around(1, 9);
        int weekdays = around(1, 127);
        int times = around(1, 30);
        same(told + "repeat", () -> sync.repeat(s, e, kind, n, weekdays, times),
            () -> model.repeat(s, e, kind, n, weekdays, times));
    }

    private void move(String told, int s, int e, int d) {
        int day = random.nextInt(3) == 0 ? -1 : around(0, 1094);
        int minute = around(0, 1439);
        same(told + "move", () -> sync.move(s, e, d, day, minute), () -> model.move(s, e, d, day, minute));
    }

    private void setZone(String told) {
        int zone = random.nextInt(4) - random.nextInt(2);
        int offset = around(-720, 720);
        int first = random.nextInt(3) == 0 ? -1 : around(0, 364);
        int last = around(Math.max(0, Math.min(first, 364)), 364);
        same(told + "setZone", () -> sync.setZone(zone, offset, first, last),
            () -> model.setZone(zone, offset, first, last));
    }

    private void slots(String told) {
        int slot = random.nextInt(20) == 0 ? random.nextInt(5) - 2 : random.nextInt(2);
        if (random.nextInt(3) > 0) {
            same(told + "keep", () -> sync.keep(slot), () -> model.keep(slot));
        } else if (random.nextInt(3) == 0) {
            same(told + "restore", () -> sync.restore(slot), () -> model.restore(slot));
        } else if (random.nextInt(12) == 0) {
            load(text());
        }
    }

    /** Within the bounds, but for now and then one of their neighbours. */
    private int around(int least, int most) {
        int kind = random.nextInt(60);
        return kind == 0 ? least - 1 : kind == 1 ? most + 1 : number(least, most);
    }

    // ---- questions

    private void ask(String told) {
        int p = random.nextInt(40) == 0 ? random.nextInt(5) - 1 : random.nextInt(3);
        int s = random.nextInt(40) == 0 ? random.nextInt(4) - 1 : random.nextInt(2);
        int e = random.nextInt(10) - random.nextInt(2);
        int d = random.nextInt(32) - 1;
        int what = random.nextInt(14) - 1;
        int from = random.nextInt(50) == 0 ? random.nextInt() : random.nextInt(1600000) - 5000;
        int to = random.nextInt(4) == 0 ? random.nextInt() : from + random.nextInt(200) * random.nextInt(505);
        int index = random.nextInt(40) == 0 ? random.nextInt() : random.nextInt(20) - 1;
        same(told + "zone", () -> sync.zone(p, e, what), () -> model.zone(p, e, what));
        same(told + "moment", () -> sync.moment(p, e, from / 1440, to % 1450),
            () -> model.moment(p, e, from / 1440, to % 1450));
        same(told + "event", () -> sync.event(p, e, what), () -> model.event(p, e, what));
        same(told + "date", () -> sync.date(p, e, d, what), () -> model.date(p, e, d, what));
        same(told + "answer", () -> sync.answer(p, e, s), () -> model.answer(p, e, s));
        same(told + "agenda", () -> sync.agenda(p, from, to), () -> model.agenda(p, from, to));
        same(told + "agendaAt", () -> sync.agendaAt(p, from, index, what), () -> model.agendaAt(p, from, index, what));
        same(told + "day", () -> sync.day(from / 1440, what), () -> model.day(from / 1440, what));
        same(told + "side", () -> sync.side(s, what), () -> model.side(s, what));
        same(told + "account", () -> sync.account(s, what), () -> model.account(s, what));
        if (random.nextInt(8) == 0) {
            same(told + "busyBits", () -> sync.busyBits(p, from, to), () -> model.busyBits(p, from, to));
            same(told + "busy", () -> Float.floatToIntBits(sync.busy(p, from, to)), () -> model.busyBits(p, from, to));
        }
    }

    /** Looks at what can be asked without a moment, by at most so many calls: at another part each time. */
    private void look(String told, int most) {
        int end = Math.min(CALLS, calls + most);
        same(told + "clock", () -> sync.clock(), () -> model.clock());
        for (int k = 0; k < 22; k++) {
            int s = k / 11;
            int what = k % 11;
            same(told + "side " + what, () -> what < 5 ? sync.side(s, what) : sync.account(s, what - 5),
                () -> what < 5 ? model.side(s, what) : model.account(s, what - 5));
        }
        int turn = random.nextInt(24);
        for (int k = 0; k < 24 && calls < end; k++) {
            int p = (k + turn) % 3;
            int e = (k + turn) / 3 % 8;
            if (e == 0) {
                lookAtPlace(told, p);
            }
            if ((model.events(p) & 1 << e) != 0) {
                lookAtEvent(told, p, e);
            }
        }
    }

    private void lookAtPlace(String told, int p) {
        same(told + "events", () -> sync.events(p), () -> model.events(p));
        same(told + "clashes", () -> sync.clashes(p), () -> model.clashes(p));
        same(told + "isSame", () -> sync.isSame(p) ? 1 : 0, () -> model.isSame(p) ? 1 : 0);
        for (int z = 0; z < 12; z++) {
            int k = z;
            same(told + "zone", () -> sync.zone(p, k / 4, k % 4), () -> model.zone(p, k / 4, k % 4));
        }
    }

    private void lookAtEvent(String told, int p, int e) {
        for (int k = 0; k < 14; k++) {
            int what = k;
            same(told + "event " + k, () -> what < 12 ? sync.event(p, e, what) : sync.answer(p, e, what - 12),
                () -> what < 12 ? model.event(p, e, what) : model.answer(p, e, what - 12));
        }
        int dates = model.event(p, e, 9);
        int turn = dates > 4 ? random.nextInt(dates) : 0;
        for (int k = 0; k < Math.min(4, dates); k++) {
            int d = (k + turn) % dates;
            for (int w = 0; w < 7; w++) {
                int what = w;
                same(told + "date " + w, () -> sync.date(p, e, d, what), () -> model.date(p, e, d, what));
            }
        }
    }

    private void same(String what, Checks.Call real, Checks.Call due) {
        if (calls < CALLS) {
            calls++;
            checks.answers(what, Checks.outcome(due), real);
        }
    }
}
