/** A part for each promise of the document: ordinary inputs, the edges that it names, wrong inputs. */
final class PromiseTests {
    private static final int NONE = CalendarSync.NONE;
    private static final int LEAST = Integer.MIN_VALUE;
    private static final int MOST = Integer.MAX_VALUE;

    private final Checks checks = new Checks();

    public static void main(String[] args) {
        PromiseTests tests = new PromiseTests();
        tests.newObject();
        tests.feed();
        tests.load();
        tests.texts();
        tests.textErrors();
        tests.errorCodeAndPosition();
        tests.day();
        tests.zone();
        tests.moment();
        tests.events();
        tests.event();
        tests.rules();
        tests.date();
        tests.answer();
        tests.agenda();
        tests.agendaAt();
        tests.clashes();
        tests.busy();
        tests.busyBits();
        tests.isSame();
        tests.clock();
        tests.side();
        tests.account();
        tests.create();
        tests.createAgain();
        tests.repeat();
        tests.cancel();
        tests.move();
        tests.reply();
        tests.remove();
        tests.setZone();
        tests.pushAccepts();
        tests.pushMerges();
        tests.pushRefuses();
        tests.pull();
        tests.pullTells();
        tests.sync();
        tests.undo();
        tests.undoOfChanges();
        tests.undoOfEachAct();
        tests.slots();
        tests.checks.end();
    }

    // ---- 1

    private void newObject() {
        checks.same("NONE", -1, CalendarSync.NONE);
        CalendarSync x = new CalendarSync();
        for (int p = 0; p < 3; p++) {
            checks.same("1 events", 0, x.events(p));
            checks.same("1 zone 0 offset", 0, x.zone(p, 0, 0));
            checks.same("1 zone 0 first", NONE, x.zone(p, 0, 1));
            checks.same("1 zone 0 last", NONE, x.zone(p, 0, 2));
            checks.same("1 zone 0 version", 0, x.zone(p, 0, 3));
            checks.element("1 no zone 1", () -> x.zone(0, 1, 0));
            checks.same("1 clashes", 0, x.clashes(p));
        }
        checks.same("1 clock", 0, x.clock());
        for (int s = 0; s < 2; s++) {
            int side = s;
            for (int k = 0; k < 5; k++) {
                checks.same("1 side", 0, x.side(side, k));
            }
            for (int k = 0; k < 6; k++) {
                checks.same("1 account", 0, x.account(side, k));
            }
            checks.holds("1 isSame", x.isSame(side));
            checks.element("1 slot is empty", () -> x.restore(side));
        }
        checks.state("1 nothing to undo", () -> x.undo());
        checks.same("1 errorCode", 0, x.errorCode());
        checks.same("1 errorPosition", -1, x.errorPosition());
        checks.same("1 buffer is empty", 20, x.feed(0, 0, 0, 0, 0));
        checks.same("1 one can be made", 1, x.create(1, 0, 0, 0, 1, 0));
        checks.same("1 that had not come from the store", NONE, x.event(1, 0, 8));
    }

    // ---- 2 to 5, and the section on text

    private void feed() {
        CalendarSync x = new CalendarSync();
        for (int k = 1; k <= 40; k++) {
            checks.same("2 length", 20 * k, x.feed(0x20202020, 0x20202020, 0x20202020, 0x20202020, 0x20202020));
        }
        checks.state("2 at most 800", () -> x.feed(0x7a7a7a7a, 0, 0, 0, 0));
        checks.state("2 still at most 800", () -> x.feed(0x7a7a7a7a, 0, 0, 0, 0));
        checks.same("2 nothing was appended", 0, x.load(800));
        checks.same("2 empty again", 20, x.feed(0, 0, 0, 0, 0));

        // "zone 123 summer 4 50;" has its 20 bytes in order, the last of them in the next call.
        CalendarSync y = new CalendarSync();
        y.feed(0x7a6f6e65, 0x20313233, 0x2073756d, 0x6d657220, 0x34203530);
        y.feed(0x3b000000, 0, 0, 0, 0);
        checks.same("2 load", 0, y.load(21));
        checks.same("2 offset", 123, y.zone(2, 0, 0));
        checks.same("2 first", 4, y.zone(2, 0, 1));
        checks.same("2 last", 50, y.zone(2, 0, 2));
    }

    private void load() {
        CalendarSync x = new CalendarSync();
        checks.argument("3 above the buffer", () -> x.load(1));
        checks.argument("3 below 0", () -> x.load(-1));
        checks.argument("3 least", () -> x.load(LEAST));
        checks.argument("3 most", () -> x.load(MOST));
        Feeding.feedText(x, "zone 60;event 1 2 3 0;");
        checks.argument("3 above 40", () -> x.load(41));
        checks.same("3 the buffer stays", 60, x.feed(0, 0, 0, 0, 0));
        checks.same("3 one event", 1, x.load(22));
        checks.argument("3 the buffer is empty", () -> x.load(1));
        checks.same("3 empty text", 0, x.load(0));
        checks.same("3 empty text has one zone", 0, x.zone(2, 0, 0));
        checks.same("3 and no event", 0, x.events(2));

        CalendarSync y = Feeding.of("zone 10;zone -20;event 5 6 7 1;");
        y.cancel(0, 0, 0);
        y.sync(0);
        y.keep(0);
        y.keep(1);
        y.cancel(1, 0, 0);
        checks.state("3 error", () -> Feeding.loadText(y, "zone 1"));
        checks.argument("3 the buffer is empty behind an error", () -> y.load(1));
        checks.same("3 the clock stays behind an error", 1, y.clock());
        checks.same("3 the events stay", 1, y.events(2));
        checks.same("3 the zones stay", -20, y.zone(2, 1, 0));
        checks.same("3 the accounts stay", 1, y.account(0, 0));
        checks.same("3 the changes stay", 1, y.side(1, 1));
        checks.same("3 undo stays", 2, y.undo());
        checks.same("3 slots stay", 1, y.restore(1));
        y.cancel(1, 0, 0);
        checks.same("3 two events", 2, Feeding.loadText(y, "zone 5;event 1 1 1 0;event 2 2 2 0;"));
        checks.same("3 clock", 0, y.clock());
        checks.element("3 zones", () -> y.zone(2, 1, 0));
        for (int s = 0; s < 2; s++) {
            int side = s;
            checks.same("3 events", 3, y.events(side));
            for (int k = 0; k < 5; k++) {
                checks.same("3 side " + k, 0, y.side(side, k));
            }
            for (int k = 0; k < 6; k++) {
                checks.same("3 account " + k, 0, y.account(side, k));
            }
            checks.element("3 slot", () -> y.restore(side));
            checks.same("3 version", 0, y.event(side, 1, 8));
        }
        checks.state("3 undo", () -> y.undo());
        checks.same("3 version", 0, y.event(2, 1, 8));
        checks.same("3 zone's version", 0, y.zone(2, 0, 3));
        checks.same("3 what was cancelled is not", 0, y.event(2, 0, 10));
        checks.element("3 no event 2", () -> y.event(2, 2, 0));
        y.create(0, 2, 0, 0, 1, 0);
        Feeding.loadText(y, "zone 5 summer 1 2;" + "event 1 1 1 0;".repeat(8));
        Feeding.loadText(y, "zone 6;event 1 1 1 0;");
        checks.same("3 a smaller one", 1, y.events(0));
        checks.same("3 no summer is left", NONE, y.zone(0, 0, 1));
        checks.same("3 no summer is left", NONE, y.zone(0, 0, 2));
        y.create(0, 3, 0, 0, 1, 0);
        checks.same("3 not from the store", NONE, y.event(0, 3, 8));
        Feeding.loadText(y, "zone 5 summer 1 2;");
        y.load(0);
        checks.same("3 no zone is left", 0, y.zone(2, 0, 0));
        checks.same("3 no summer is left", NONE, y.zone(2, 0, 1));
        checks.same("3 no summer is left", NONE, y.zone(2, 0, 2));
        checks.same("3 a word ends with the text", 7 + 4, errorOfPrefix("zone 5;zonex", 11));
        checks.same("3 a number ends with the text", 7, errorOfPrefix("zone 721;", 7));
        checks.same("3 the first bytes alone", 1, prefix("zone 5;event 1 1 1 0;event 2 2 2 0;", 21));
    }

    private static int prefix(String text, int length) {
        CalendarSync x = new CalendarSync();
        Feeding.feedText(x, text);
        return x.load(length);
    }

    private int errorOfPrefix(String text, int length) {
        CalendarSync x = new CalendarSync();
        Feeding.feedText(x, text);
        checks.state("3 the first bytes of " + text, () -> x.load(length));
        return x.errorPosition();
    }

    private void texts() {
        CalendarSync x = Feeding.of(" \nzone-720summer0 0;zone720summer 364 364 ;zone -0\n;\n"
            + "event 1094 1439 1440 2;event0 0 1 0every9days times 30not 0not 29 move 0 1094 0move 0 3 4; ");
        checks.same("4 events", 3, x.events(2));
        checks.same("4 offset", -720, x.zone(2, 0, 0));
        checks.same("4 first", 0, x.zone(2, 0, 1));
        checks.same("4 last", 0, x.zone(2, 0, 2));
        checks.same("4 offset", 720, x.zone(2, 1, 0));
        checks.same("4 first", 364, x.zone(2, 1, 1));
        checks.same("4 minus 0", 0, x.zone(2, 2, 0));
        checks.same("4 day", 1094, x.event(2, 0, 0));
        checks.same("4 minute", 1439, x.event(2, 0, 1));
        checks.same("4 length", 1440, x.event(2, 0, 2));
        checks.same("4 zone", 2, x.event(2, 0, 3));
        checks.same("4 kind", 0, x.event(2, 0, 4));
        checks.same("4 n", 9, x.event(2, 1, 5));
        checks.same("4 times", 30, x.event(2, 1, 7));
        checks.same("4 cancelled", 1 | 1 << 29, x.event(2, 1, 10));
        checks.same("4 moved", 1, x.event(2, 1, 11));
        checks.same("4 the latest move counts", 3, x.date(2, 1, 0, 0));
        checks.same("4 the latest move counts", 4, x.date(2, 1, 0, 1));

        CalendarSync y = Feeding.of("zone 0001;event 0000 0000 0001 0000 every 0001 weeks su sa fr th we tu mo times 0009;");
        checks.same("4 four digits", 1, y.zone(2, 0, 0));
        checks.same("4 all weekdays", 127, y.event(2, 0, 6));
        checks.same("4 times", 9, y.event(2, 0, 9));
        CalendarSync z = Feeding.of("zone 1;event 0 0 1 0 every 2 weeks tu su times 3;event 0 0 1 0 every 3 months times 2;");
        checks.same("4 weekdays", 66, z.event(2, 0, 6));
        checks.same("4 kind", 2, z.event(2, 0, 4));
        checks.same("4 n", 2, z.event(2, 0, 5));
        checks.same("4 kind", 3, z.event(2, 1, 4));
        checks.same("4 n", 3, z.event(2, 1, 5));
        checks.same("4 no weekdays", 0, z.event(2, 1, 6));
        CalendarSync two = Feeding.of("zone 0;event 0 0 1 0 every 1 weeks mo times 1 move 0 1094 1439;"
            + "event 0 0 1 0 every 1 weeks mo tu times 1;");
        checks.same("4 weekdays of the first one", 1, two.event(2, 0, 6));
        checks.same("4 weekdays of the second one", 3, two.event(2, 1, 6));
        checks.same("4 once", 1, two.event(2, 0, 9));
        checks.same("4 last minute", 1439, two.date(2, 0, 0, 1));
    }

    private void textErrors() {
        // 1 SYNTAX: tokens that the grammar does not allow.
        wrong("x", 1, 0);
        wrong("zon 5;", 1, 0);
        wrong("zones 5;", 1, 0);
        wrong("xone 5;", 1, 0);
        wrong("zonf 5;", 1, 0);
        wrong("zone 5;event 1 2 3 0 every 1 weeks xx times 4;", 1, 35);
        wrong("zone 5;event 1 2 3 0 every 1 weeks mu times 4;", 1, 35);
        wrong("zone 5;event 1 2 3 0 every 1 weeks m times 4;", 1, 35);
        wrong("Zone 5;", 1, 0);
        wrong("zoNe 5;", 1, 0);
        wrong(";", 1, 0);
        wrong("zone 5;;", 1, 7);
        wrong("5", 1, 0);
        wrong("-", 1, 0);
        wrong("zone ;", 1, 5);
        wrong("zone - - 5;", 1, 7);
        wrong("zone 5 6;", 1, 7);
        wrong("zone 5 summer 1;", 1, 15);
        wrong("zone 5 summer -1 2;", 1, 14);
        wrong("zone 5 summer 1 2 3;", 1, 18);
        wrong("zone 5 event", 1, 7);
        wrong("zone 5;event 1 2 3;", 1, 18);
        wrong("zone 5;event -1 2 3 0;", 1, 13);
        wrong("zone 5;event 1 2 3 0 times 4;", 1, 21);
        wrong("zone 5;event 1 2 3 0 every days times 4;", 1, 27);
        wrong("zone 5;event 1 2 3 0 every 1 times 4;", 1, 29);
        wrong("zone 5;event 1 2 3 0 every 1 weeks times 4;", 1, 35);
        wrong("zone 5;event 1 2 3 0 every 1 weeks;", 1, 34);
        wrong("zone 5;event 1 2 3 0 every 1 weeks motu times 4;", 1, 35);
        wrong("zone 5;event 1 2 3 0 every 1 weeks mo not 0;", 1, 38);
        wrong("zone 5;event 1 2 3 0 every 1 days mo times 4;", 1, 34);
        wrong("zone 5;event 1 2 3 0 every 1 days not 0;", 1, 34);
        wrong("zone 5;event 1 2 3 0 every 1 days times 4 every", 1, 42);
        wrong("zone 5;event 1 2 3 0 not 0 every 1 days times 4;", 1, 27);
        wrong("zone 5;event 1 2 3 0 not;", 1, 24);
        wrong("zone 5;event 1 2 3 0 move 0 1;", 1, 29);
        wrong("zone 5;event 1 2 3 0 mo", 1, 21);
        // a number of more than 4 digits, even if it is in its range, or stands where none may
        wrong("zone 00005;", 1, 5);
        wrong("zone 12345;", 1, 5);
        wrong("zone 5 summer 00001 2;", 1, 14);
        wrong("zone 5 99999;", 1, 7);
        wrong("zone 99999999999999999999999999;", 1, 5);
        // any other byte
        wrong("\tzone 5;", 1, 0);
        wrong("zone\t5;", 1, 4);
        wrong("zone 5,", 1, 6);
        wrong("zone 5;\r\n", 1, 7);
        wrong("zone 5;\u0000", 1, 7);
        wrong("zone 5;\u00e9", 1, 7);
        wrong("zone +5;", 1, 5);
        wrong("zone 5;`", 1, 7);
        wrong("zone 5;{", 1, 7);
        wrong("zone 5/;", 1, 6);
        wrong("zone 5:;", 1, 6);
        // the end of the text where more is needed
        wrong("zone", 1, 4);
        wrong("zone -", 1, 6);
        wrong("zone 5", 1, 6);
        wrong("zone 5 \n ", 1, 9);
        wrong("zone 5 summer", 1, 13);
        wrong("zone 5;event", 1, 12);
        wrong("zone 5;event 1 2 3 0", 1, 20);
        wrong("zone 5;event 1 2 3 0 every 1 weeks mo", 1, 37);
        wrong("zone 5;event 1 2 3 0 every", 1, 26);
        wrong("zone 5;event 1 2 3 0 move 0 1 ", 1, 30);
        // 2 RANGE
        wrong("zone 721;", 2, 5);
        wrong("zone -721;", 2, 6);
        wrong("zone 721", 2, 5);
        wrong("zone 5 summer 365 365;", 2, 14);
        wrong("zone 5 summer 10 9;", 2, 17);
        wrong("zone 5 summer 10 365;", 2, 17);
        wrong("event 1 2 3 0;", 2, 12);
        wrong("zone 5;event 1095 2 3 0;", 2, 13);
        wrong("zone 5;event 1 1440 3 0;", 2, 15);
        wrong("zone 5;event 1 2 0 0;", 2, 17);
        wrong("zone 5;event 1 2 1441 0;", 2, 17);
        wrong("zone 5;event 1 2 3 1;", 2, 19);
        wrong("zone 5;event 1 2 3 1;zone 5;", 2, 19);
        wrong("zone 5;event 1 2 3 0 every 0 days times 1;", 2, 27);
        wrong("zone 5;event 1 2 3 0 every 10 days times 1;", 2, 27);
        wrong("zone 5;event 1 2 3 0 every 1 days times 0;", 2, 40);
        wrong("zone 5;event 1 2 3 0 every 1 days times 31;", 2, 40);
        wrong("zone 5;event 1 2 3 0 not 1;", 2, 25);
        wrong("zone 5;event 1 2 3 0 move 1 1 1;", 2, 26);
        wrong("zone 5;event 1 2 3 0 move 0 1095 1;", 2, 28);
        wrong("zone 5;event 1 2 3 0 move 0 1 1440;", 2, 30);
        wrong("zone 5;event 1 2 3 0 every 1 days times 3 not 3;", 2, 46);
        wrong("zone 5;event 1093 2 3 0 every 1 days times 9 not 2;", 2, 49);
        wrong("zone 5;event 1094 2 3 0 every 1 weeks mo times 9 not 0;", 2, 53);
        // 3 TWICE
        wrong("zone 5;event 1 2 3 0 every 1 weeks mo tu mo times 3;", 3, 41);
        wrong("zone 5;event 1 2 3 0 every 1 weeks su su times 3;", 3, 38);
        wrong("zone 5;event 1 2 3 0 every 1 weeks mo tu we th fr sa su tu times 3;", 3, 56);
        wrong("zone 5;event 1 2 3 0 every 1 weeks mo tu we th fr sa su 1;", 1, 56);
        wrong("zone 5;event 1 2 3 0 not 0 not 0;", 3, 31);
        wrong("zone 5;event 1 2 3 0 every 1 days times 3 not 2 not 1 not 02;", 3, 58);
        // 4 LIMIT
        wrong("zone 1;zone 2;zone 3;zone 4;", 4, 21);
        wrong("zone 1;zone 2;zone 3;zone", 4, 21);
        wrong("zone 1;" + "event 1 2 3 0;".repeat(8) + "event 1 2 3 0;", 4, 119);
        wrong("zone 1;" + "event 1 2 3 0;".repeat(8) + "event", 4, 119);
        wrong("zone 1;zone 2;zone 3;zones 4;", 1, 21);
        // the least position counts
        wrong("zone 721;x", 2, 5);
        wrong("zone 1;event 1 2 3 0 not 0 not 0 not 5;", 3, 31);
        // at the limits
        checks.same("4 three zones, eight events", 8,
            Feeding.loadText(new CalendarSync(), "zone 1;zone 2;zone 3;" + "event 1 2 3 2;".repeat(8)));
        checks.same("4 a zone behind an event", 2,
            Feeding.loadText(new CalendarSync(), "zone 1;event 1 2 3 0;zone 2;event 1 2 3 1;"));
        checks.same("4 the same DATE of other events", 2,
            Feeding.loadText(new CalendarSync(), "zone 1;event 1 2 3 0 not 0;event 1 2 3 0 not 0 move 0 1 1 move 0 1 1;"));
    }

    private void wrong(String text, int code, int position) {
        CalendarSync x = new CalendarSync();
        Feeding.feedText(x, text);
        checks.state("3 load " + text, () -> x.load(text.length()));
        checks.same("4 errorCode " + text, code, x.errorCode());
        checks.same("5 errorPosition " + text, position, x.errorPosition());
    }

    private void errorCodeAndPosition() {
        CalendarSync x = new CalendarSync();
        Feeding.feedText(x, "zone 721;");
        checks.argument("4 argument", () -> x.load(21));
        checks.same("4 before any", 0, x.errorCode());
        checks.same("5 before any", -1, x.errorPosition());
        checks.state("4 error", () -> x.load(9));
        checks.same("4 code", 2, x.errorCode());
        checks.same("5 position", 5, x.errorPosition());
        checks.argument("4 argument", () -> x.load(1));
        checks.same("4 stays", 2, x.errorCode());
        checks.same("5 stays", 5, x.errorPosition());
        x.push(0);
        x.undo();
        x.keep(0);
        x.restore(0);
        checks.same("4 slots do not have it", 2, x.errorCode());
        x.load(0);
        checks.same("4 none", 0, x.errorCode());
        checks.same("5 none", -1, x.errorPosition());
        checks.state("4 error", () -> Feeding.loadText(x, "zone"));
        checks.same("4 the latest one", 1, x.errorCode());
        checks.same("5 the latest one", 4, x.errorPosition());
    }

    // ---- 6 to 8

    private void day() {
        int[] lengths = {31, 28, 31, 30, 31, 30, 31, 31, 30, 31, 30, 31};
        int day = 0;
        for (int year = 0; year < 3; year++) {
            for (int month = 0; month < 12; month++) {
                CalendarSync x = new CalendarSync();
                for (int of = 1; of <= lengths[month]; of++) {
                    checks.same("6 month", month + 1, x.day(day, 0));
                    checks.same("6 day of the month", of, x.day(day, 1));
                    checks.same("6 weekday", day % 7, x.day(day, 2));
                    checks.same("6 year", year, x.day(day, 3));
                    day++;
                }
            }
        }
        CalendarSync x = new CalendarSync();
        checks.same("6 all days", 1095, day);
        checks.argument("6 day", () -> x.day(1095, 0));
        checks.argument("6 day", () -> x.day(-1, 0));
        checks.argument("6 day", () -> x.day(LEAST, 0));
        checks.argument("6 day", () -> x.day(MOST, 0));
        checks.argument("6 what", () -> x.day(0, 4));
        checks.argument("6 what", () -> x.day(0, -1));
    }

    private void zone() {
        CalendarSync x = Feeding.of("zone 60 summer 90 300;zone -300;");
        for (int p = 0; p < 3; p++) {
            checks.same("7 offset", 60, x.zone(p, 0, 0));
            checks.same("7 first", 90, x.zone(p, 0, 1));
            checks.same("7 last", 300, x.zone(p, 0, 2));
            checks.same("7 version", 0, x.zone(p, 0, 3));
            checks.same("7 offset", -300, x.zone(p, 1, 0));
            checks.same("7 first", NONE, x.zone(p, 1, 1));
            checks.same("7 last", NONE, x.zone(p, 1, 2));
        }
        x.setZone(1, 5, 6, 7);
        checks.same("7 the store has it", 5, x.zone(2, 1, 0));
        checks.same("7 its version", 1, x.zone(2, 1, 3));
        checks.same("7 the other zone keeps its version", 0, x.zone(2, 0, 3));
        checks.same("7 a side has it not yet", -300, x.zone(0, 1, 0));
        x.pull(0);
        checks.same("7 a pull takes it over", 6, x.zone(0, 1, 1));
        checks.same("7 with its version", 1, x.zone(0, 1, 3));
        checks.same("7 the other side has it not", 0, x.zone(1, 1, 3));
        checks.argument("7 place", () -> x.zone(3, 9, 9));
        checks.argument("7 place", () -> x.zone(-1, 0, 0));
        checks.element("7 zone", () -> x.zone(0, 2, 9));
        checks.element("7 zone", () -> x.zone(0, -1, 0));
        checks.element("7 zone", () -> x.zone(2, MOST, 0));
        checks.index("7 what", () -> x.zone(0, 0, 4));
        checks.index("7 what", () -> x.zone(0, 0, -1));
    }

    private void moment() {
        CalendarSync x = Feeding.of("zone 60 summer 90 300;zone -300;zone 720 summer 364 364;");
        checks.same("8 winter", -60, x.moment(0, 0, 0, 0));
        checks.same("8 ahead of summer", 89 * 1440 + 1439 - 60, x.moment(0, 0, 89, 1439));
        checks.same("8 first of summer", 90 * 1440 - 120, x.moment(0, 0, 90, 0));
        checks.same("8 last of summer", 300 * 1440 + 1439 - 120, x.moment(0, 0, 300, 1439));
        checks.same("8 behind summer", 301 * 1440 - 60, x.moment(0, 0, 301, 0));
        checks.same("8 summer of year 1", 455 * 1440 - 120, x.moment(1, 0, 455, 0));
        checks.same("8 summer of year 2", 1030 * 1440 - 120, x.moment(2, 0, 1030, 0));
        checks.same("8 winter of year 2", 1031 * 1440 - 60, x.moment(2, 0, 1031, 0));
        checks.same("8 behind", 1440 + 10 + 300, x.moment(0, 1, 1, 10));
        checks.same("8 last day", 1094 * 1440 + 1439 - 780, x.moment(0, 2, 1094, 1439));
        checks.same("8 first day of a year", 365 * 1440 - 720, x.moment(0, 2, 365, 0));
        x.setZone(0, 0, NONE, 0);
        checks.same("8 by the store's zones", 90 * 1440, x.moment(2, 0, 90, 0));
        checks.same("8 by the side's zones", 90 * 1440 - 120, x.moment(1, 0, 90, 0));
        checks.argument("8 place", () -> x.moment(3, 0, 0, 0));
        checks.argument("8 place", () -> x.moment(-1, 9, 0, 0));
        checks.argument("8 day", () -> x.moment(0, 9, 1095, 0));
        checks.argument("8 day", () -> x.moment(0, 0, -1, 0));
        checks.argument("8 minute", () -> x.moment(0, 9, 0, 1440));
        checks.argument("8 minute", () -> x.moment(0, 0, 0, -1));
        checks.element("8 zone", () -> x.moment(0, 3, 0, 0));
        checks.element("8 zone", () -> x.moment(0, -1, 0, 0));
    }

    // ---- 9 to 12

    private void events() {
        CalendarSync x = Feeding.of("zone 0;event 0 0 1 0;event 0 0 1 0;event 0 0 1 0;");
        checks.same("9 events", 7, x.events(2));
        x.remove(0, 1);
        x.create(1, 7, 0, 0, 1, 0);
        checks.same("9 side 0", 5, x.events(0));
        checks.same("9 side 1", 0x87, x.events(1));
        checks.same("9 store", 7, x.events(2));
        checks.argument("9 place", () -> x.events(3));
        checks.argument("9 place", () -> x.events(-1));
    }

    private void event() {
        CalendarSync x = Feeding.of("zone 0;zone 1;event 10 20 30 1;event 1 2 3 0 every 4 days times 5 not 1 not 3 move 4 7 8;"
            + "event 0 0 1 0 every 2 weeks we su times 6;event 30 0 1 0 every 1 months times 7;");
        int[][] due = {{10, 20, 30, 1, 0, 0, 0, 1, 0, 1, 0, 0}, {1, 2, 3, 0, 1, 4, 0, 5, 0, 5, 10, 16},
            {0, 0, 1, 0, 2, 2, 68, 6, 0, 6, 0, 0}, {30, 0, 1, 0, 3, 1, 0, 7, 0, 7, 0, 0}};
        for (int p = 0; p < 3; p++) {
            for (int e = 0; e < 4; e++) {
                for (int k = 0; k < 12; k++) {
                    checks.same("10 event " + e + " what " + k, due[e][k], x.event(p, e, k));
                }
            }
        }
        x.create(0, 5, 1, 1, 1, 0);
        checks.same("10 not from the store", NONE, x.event(0, 5, 8));
        x.push(0);
        checks.same("10 has a version then", 1, x.event(0, 5, 8));
        checks.same("10 that of the store", 1, x.event(2, 5, 8));
        x.cancel(0, 1, 1);
        checks.same("10 shown again", 8, x.event(0, 1, 10));
        checks.same("10 in the side alone", 10, x.event(2, 1, 10));
        checks.same("10 version of the copy stays", 0, x.event(0, 1, 8));
        checks.argument("10 place", () -> x.event(3, 9, 99));
        checks.argument("10 place", () -> x.event(-1, 0, 0));
        checks.element("10 event", () -> x.event(0, 4, 99));
        checks.element("10 event", () -> x.event(0, 8, 0));
        checks.element("10 event", () -> x.event(0, -1, 0));
        checks.element("10 not there yet", () -> x.event(1, 5, 0));
        checks.index("10 what", () -> x.event(0, 0, 12));
        checks.index("10 what", () -> x.event(0, 0, -1));
    }

    private void rules() {
        dates("event 5 0 1 0", 5);
        dates("event 5 0 1 0 every 1 days times 4", 5, 6, 7, 8);
        dates("event 5 0 1 0 every 9 days times 3", 5, 14, 23);
        dates("event 1092 0 1 0 every 1 days times 30", 1092, 1093, 1094);
        dates("event 1094 0 1 0 every 9 days times 30", 1094);
        dates("event 1085 0 1 0 every 9 days times 30", 1085, 1094);
        // The week of the start is the first one; the days ahead of the start are none.
        dates("event 2 0 1 0 every 1 weeks mo we times 4", 2, 7, 9, 14);
        dates("event 2 0 1 0 every 2 weeks mo we times 4", 2, 14, 16, 28);
        dates("event 3 0 1 0 every 2 weeks mo we times 3", 14, 16, 28);
        dates("event 0 0 1 0 every 2 weeks tu fr times 4", 1, 4, 15, 18);
        dates("event 12 0 1 0 every 4 weeks tu sa times 4", 12, 36, 40, 64);
        dates("event 6 0 1 0 every 3 weeks mo su times 4", 6, 21, 27, 42);
        dates("event 7 0 1 0 every 9 weeks su times 2", 13, 76);
        dates("event 1088 0 1 0 every 1 weeks tu we th times 9", 1088, 1093, 1094);
        dates("event 1094 0 1 0 every 1 weeks mo times 9");
        dates("event 1092 0 1 0 every 1 weeks sa times 9");
        // The 31st: months that have no such day are left out, and do not count.
        dates("event 30 0 1 0 every 1 months times 7", 30, 89, 150, 211, 242, 303, 364);
        dates("event 30 0 1 0 every 2 months times 4", 30, 89, 150, 211);
        dates("event 29 0 1 0 every 1 months times 3", 29, 88, 119);
        dates("event 28 0 1 0 every 1 months times 3", 28, 87, 118);
        dates("event 27 0 1 0 every 1 months times 3", 27, 58, 86);
        dates("event 364 0 1 0 every 1 months times 3", 364, 395, 454);
        dates("event 0 0 1 0 every 9 months times 30", 0, 273, 365 + 181, 730 + 90);
        dates("event 1063 0 1 0 every 1 months times 30", 1063, 1093);
        dates("event 1094 0 1 0 every 1 months times 30", 1094);
        dates("event 31 0 1 0 every 1 months times 2", 31, 59);
        CalendarSync all = Feeding.of("zone 0;event 0 0 1 0 every 1 days times 30;");
        checks.same("2 at most 30", 30, all.event(0, 0, 9));
        CalendarSync months = Feeding.of("zone 0;event 0 0 1 0 every 1 months times 30;");
        checks.same("2 30 months", 30, months.event(0, 0, 9));
        checks.same("2 the 30th month", 730 + 151, months.date(0, 0, 29, 4));
    }

    private void dates(String event, int... due) {
        CalendarSync x = Feeding.of("zone 0;" + event + ";");
        checks.same("2 dates of " + event, due.length, x.event(2, 0, 9));
        for (int k = 0; k < Math.min(due.length, x.event(2, 0, 9)); k++) {
            checks.same("2 date " + k + " of " + event, due[k], x.date(2, 0, k, 4));
            checks.same("2 date " + k + " of " + event, due[k], x.date(2, 0, k, 0));
        }
    }

    private void date() {
        CalendarSync x = Feeding.of("zone 60 summer 20 20;event 10 500 30 0 every 3 days times 5 not 1 not 2 move 2 20 0;");
        for (int p = 0; p < 3; p++) {
            checks.same("11 day", 10, x.date(p, 0, 0, 0));
            checks.same("11 minute", 500, x.date(p, 0, 0, 1));
            checks.same("11 moment", 14400 + 440, x.date(p, 0, 0, 2));
            checks.same("11 shown", 1, x.date(p, 0, 0, 3));
            checks.same("11 cancelled", 0, x.date(p, 0, 1, 3));
            checks.same("11 cancelled and moved", 0, x.date(p, 0, 2, 3));
            checks.same("11 moved day", 20, x.date(p, 0, 2, 0));
            checks.same("11 moved minute", 0, x.date(p, 0, 2, 1));
            checks.same("11 moment in summer", 20 * 1440 - 120, x.date(p, 0, 2, 2));
            checks.same("11 the rule's day", 16, x.date(p, 0, 2, 4));
            checks.same("11 answer", 0, x.date(p, 0, 0, 5));
            checks.same("11 answer", 0, x.date(p, 0, 0, 6));
        }
        x.reply(0, 0, NONE, 3);
        x.reply(0, 0, 1, 2);
        x.reply(1, 0, 4, 1);
        checks.same("11 answer to the whole", 3, x.date(0, 0, 0, 5));
        checks.same("11 answer to the date", 2, x.date(0, 0, 1, 5));
        checks.same("11 the other side's", 0, x.date(0, 0, 4, 6));
        checks.same("11 own one", 1, x.date(1, 0, 4, 6));
        checks.same("11 not that of side 0", 0, x.date(1, 0, 4, 5));
        x.setZone(0, 0, NONE, NONE);
        checks.same("11 by the store's zones", 20 * 1440, x.date(2, 0, 2, 2));
        checks.same("11 by the side's zones", 20 * 1440 - 120, x.date(0, 0, 2, 2));
        checks.argument("11 place", () -> x.date(3, 9, 99, 99));
        checks.argument("11 place", () -> x.date(-1, 0, 0, 0));
        checks.element("11 event", () -> x.date(0, 1, 99, 99));
        checks.element("11 event", () -> x.date(0, -1, 0, 0));
        checks.index("11 date", () -> x.date(0, 0, 5, 0));
        checks.index("11 date", () -> x.date(0, 0, -1, 0));
        checks.index("11 what", () -> x.date(0, 0, 0, 7));
        checks.index("11 what", () -> x.date(0, 0, 0, -1));
        CalendarSync none = Feeding.of("zone 0;event 1094 0 1 0 every 1 weeks mo times 5;");
        checks.index("11 no dates", () -> none.date(0, 0, 0, 0));
    }

    private void answer() {
        CalendarSync x = Feeding.of("zone 0;event 10 500 30 0;");
        x.reply(0, 0, NONE, 2);
        x.reply(1, 0, NONE, 3);
        x.reply(0, 0, 0, 1);
        checks.same("12 own", 2, x.answer(0, 0, 0));
        checks.same("12 other", 0, x.answer(0, 0, 1));
        checks.same("12 own", 3, x.answer(1, 0, 1));
        checks.same("12 store", 0, x.answer(2, 0, 0));
        x.push(0);
        x.push(1);
        checks.same("12 store 0", 2, x.answer(2, 0, 0));
        checks.same("12 store 1", 3, x.answer(2, 0, 1));
        checks.argument("12 place", () -> x.answer(3, 9, 0));
        checks.argument("12 place", () -> x.answer(-1, 0, 0));
        checks.argument("12 side", () -> x.answer(0, 9, 2));
        checks.argument("12 side", () -> x.answer(0, 0, -1));
        checks.element("12 event", () -> x.answer(0, 1, 0));
        checks.element("12 event", () -> x.answer(0, 8, 0));
        checks.element("12 event", () -> x.answer(0, -1, 0));
    }

    // ---- 13 to 17

    private void agenda() {
        CalendarSync x = Feeding.of("zone 0;event 0 100 10 0 every 1 days times 3 not 1;event 1 0 10 0;event 2 100 10 0;");
        checks.same("13 all", 4, x.agenda(2, LEAST, MOST));
        checks.same("13 from counts", 4, x.agenda(2, 100, MOST));
        checks.same("13 behind from", 3, x.agenda(2, 101, MOST));
        checks.same("13 to counts not", 2, x.agenda(2, LEAST, 2980));
        checks.same("13 ahead of to", 4, x.agenda(2, LEAST, 2981));
        checks.same("13 one", 1, x.agenda(2, 1440, 1441));
        checks.same("13 empty", 0, x.agenda(2, 1440, 1440));
        checks.same("13 the wrong way round", 0, x.agenda(2, MOST, LEAST));
        x.cancel(0, 0, 1);
        checks.same("13 side", 5, x.agenda(0, 0, 5000));
        checks.same("13 other side", 4, x.agenda(1, 0, 5000));
        x.remove(1, 0);
        checks.same("13 removed", 2, x.agenda(1, 0, 5000));
        checks.argument("13 place", () -> x.agenda(3, 0, 0));
        checks.argument("13 place", () -> x.agenda(-1, 0, 0));
        CalendarSync y = Feeding.of("zone 720 summer 0 0;event 0 0 1 0;");
        checks.same("13 below 0", 1, y.agenda(0, -780, -779));
        CalendarSync full = Feeding.of("zone 0;" + "event 1000 0 1440 0 every 3 days times 30;".repeat(8));
        checks.same("13 all dates", 240, full.agenda(0, 0, MOST));
        checks.same("13 the last one's event", 7, full.agendaAt(0, 0, 239, 0));
        checks.same("13 the last one's date", 29, full.agendaAt(0, 0, 239, 1));
        checks.same("13 clashes", 28 * 30, full.clashes(0));
    }

    private void agendaAt() {
        // The moments: event 0: 100, 1540, 2980; event 1: 1540; event 2: 1540, 100 (moved ahead).
        CalendarSync x = Feeding.of("zone 0;event 0 100 10 0 every 1 days times 3;event 1 100 10 0;"
            + "event 1 100 10 0 every 1 days times 2 move 1 0 100;event 1 99 1 0 not 0;");
        int[][] due = {{0, 0, 100}, {2, 1, 100}, {0, 1, 1540}, {1, 0, 1540}, {2, 0, 1540}, {0, 2, 2980}};
        for (int p = 0; p < 3; p++) {
            for (int k = 0; k < 6; k++) {
                for (int what = 0; what < 3; what++) {
                    checks.same("14 at " + k, due[k][what], x.agendaAt(p, LEAST, k, what));
                    checks.same("14 at " + k, due[k][what], x.agendaAt(p, 100, k, what));
                }
            }
        }
        checks.same("14 from", 0, x.agendaAt(2, 101, 0, 0));
        checks.same("14 from", 1, x.agendaAt(2, 101, 0, 1));
        checks.same("14 from", 2980, x.agendaAt(2, 1541, 0, 2));
        checks.argument("14 place", () -> x.agendaAt(3, 0, 99, 99));
        checks.argument("14 place", () -> x.agendaAt(-1, 0, 0, 0));
        checks.element("14 index", () -> x.agendaAt(0, 0, 6, 99));
        checks.element("14 index", () -> x.agendaAt(0, 101, 4, 0));
        checks.element("14 index", () -> x.agendaAt(0, 0, -1, 0));
        checks.element("14 index", () -> x.agendaAt(0, 101, -1, 0));
        checks.element("14 index", () -> x.agendaAt(0, 101, MOST, 0));
        checks.element("14 index", () -> x.agendaAt(0, 101, LEAST, 0));
        checks.element("14 none", () -> x.agendaAt(0, MOST, 0, 0));
        checks.index("14 what", () -> x.agendaAt(0, 0, 0, 3));
        checks.index("14 what", () -> x.agendaAt(0, 0, 0, -1));
        // An event that comes later in its number, but first in time.
        CalendarSync first = Feeding.of("zone 0;event 9 0 1 0;event 5 0 1 0;event 1 0 1 0;");
        checks.same("14 first", 2, first.agendaAt(0, 0, 0, 0));
        checks.same("14 second", 1, first.agendaAt(0, 0, 1, 0));
        checks.same("14 third", 0, first.agendaAt(0, 0, 2, 0));
        // Two dates of one event at one moment: the lower number is first.
        CalendarSync y = Feeding.of("zone 0;event 5 0 1 0 every 1 days times 3 move 2 5 0;");
        checks.same("14 dates", 0, y.agendaAt(0, 0, 0, 1));
        checks.same("14 dates", 2, y.agendaAt(0, 0, 1, 1));
        checks.same("14 dates", 1, y.agendaAt(0, 0, 2, 1));
    }

    private void clashes() {
        checks.same("15 touching", 0, Feeding.of("zone 0;event 0 0 10 0;event 0 10 10 0;").clashes(2));
        checks.same("15 by a minute", 1, Feeding.of("zone 0;event 0 0 11 0;event 0 10 10 0;").clashes(2));
        checks.same("15 inside", 1, Feeding.of("zone 0;event 0 5 1 0;event 0 0 10 0;").clashes(0));
        checks.same("15 equal", 1, Feeding.of("zone 0;event 0 0 1 0;event 0 0 1 0;").clashes(1));
        checks.same("15 three", 3, Feeding.of("zone 0;event 0 0 9 0;event 0 1 9 0;event 0 2 9 0;").clashes(1));
        checks.same("15 a long one over later ones", 2,
            Feeding.of("zone 0;event 0 0 100 0;event 0 10 10 0;event 0 30 10 0;").clashes(1));
        checks.same("15 one event", 1, Feeding.of("zone 0;event 0 0 60 0 every 1 days times 3 move 1 0 59;").clashes(2));
        checks.same("15 by the clocks", 1,
            Feeding.of("zone 0 summer 5 9;event 0 0 1440 0 every 1 days times 20;").clashes(2));
        CalendarSync x = Feeding.of("zone 0;event 0 0 10 0;event 0 0 10 0 not 0;");
        checks.same("15 cancelled", 0, x.clashes(0));
        x.cancel(0, 1, 0);
        checks.same("15 side", 1, x.clashes(0));
        checks.same("15 store", 0, x.clashes(2));
        checks.argument("15 place", () -> x.clashes(3));
        checks.argument("15 place", () -> x.clashes(-1));
    }

    private void busy() {
        CalendarSync x = Feeding.of("zone 0;event 0 100 50 0;event 0 120 50 0;event 0 300 10 0;event 0 130 5 0;event 0 0 99 0 not 0;");
        share("16 all", x, 0, 400, 80f / 400f);
        share("16 cut", x, 110, 160, 1f);
        share("16 the end of it", x, 169, 171, 0.5f);
        share("16 behind it", x, 170, 180, 0f);
        share("16 ahead of it", x, 90, 100, 0f);
        share("16 the first minute", x, 90, 101, 1f / 11f);
        share("16 the longest", x, 0, 100000, 80f / 100000f);
        share("16 one minute", x, 100, 101, 1f);
        share("16 far below", x, LEAST, LEAST + 1, 0f);
        share("16 far above", x, MOST - 100000, MOST, 0f);
        share("16 a third", x, 305, 320, 5f / 15f);
        x.cancel(0, 0, 0);
        checks.holds("16 side", x.busy(0, 100, 200) == 0.5f);
        checks.holds("16 store", x.busy(2, 100, 200) == 0.7f);
        for (int what = 0; what < 2; what++) {
            boolean bits = what == 1;
            checks.argument("16 place", () -> busy(x, bits, 3, 0, 1));
            checks.argument("16 place", () -> busy(x, bits, -1, 0, 1));
            checks.argument("16 to", () -> busy(x, bits, 0, 5, 5));
            checks.argument("16 to", () -> busy(x, bits, 0, 5, 4));
            checks.argument("16 to", () -> busy(x, bits, 0, 5, 100006));
            checks.argument("16 to", () -> busy(x, bits, 0, LEAST, MOST));
            checks.argument("16 to", () -> busy(x, bits, 0, MOST, LEAST));
            checks.argument("16 to", () -> busy(x, bits, 0, LEAST, 0));
        }
    }

    private static long busy(CalendarSync x, boolean bits, int place, int from, int to) {
        return bits ? x.busyBits(place, from, to) : (long) x.busy(place, from, to);
    }

    private void share(String what, CalendarSync x, int from, int to, float due) {
        for (int p = 0; p < 3; p++) {
            checks.holds(what, x.busy(p, from, to) == due);
            checks.same("17 " + what, Float.floatToIntBits(due), x.busyBits(p, from, to));
        }
    }

    private void busyBits() {
        for (int length = 1; length <= 1440; length += 7) {
            CalendarSync x = Feeding.of("zone 0;event 0 0 " + length + " 0;");
            for (int to : new int[] {1, 2, 3, 1000, 1439, 1440, 1441, 65536, 99999, 100000}) {
                float due = (float) Math.min(length, to) / (float) to;
                checks.same("17 bits", Float.floatToIntBits(due), x.busyBits(0, 0, to));
            }
        }
        CalendarSync none = new CalendarSync();
        checks.same("17 none", 0, none.busyBits(0, -50, 50));
        CalendarSync full = Feeding.of("zone 0;event 0 0 1440 0 every 1 days times 30;");
        checks.same("17 full", 0x3f800000, full.busyBits(0, 0, 43200));
        checks.same("17 nearly full", Float.floatToIntBits(43200f / 43201f), full.busyBits(0, 0, 43201));
    }

    // ---- 18 to 21

    private void isSame() {
        CalendarSync x = Feeding.of("zone 0;event 0 0 10 0 every 1 days times 3;event 5 0 10 0 not 0;");
        checks.holds("18 at first", x.isSame(0) && x.isSame(1));
        x.cancel(0, 0, 1);
        checks.holds("18 a date is not shown", !x.isSame(0) && x.isSame(1));
        x.cancel(0, 0, 1);
        checks.holds("18 shown again, though changed", x.isSame(0));
        x.move(0, 0, 1, 1, 0);
        checks.holds("18 moved to its own moment", x.isSame(0));
        x.move(0, 0, 1, 1, 1);
        checks.holds("18 moved", !x.isSame(0));
        x.move(0, 0, 1, NONE, 0);
        x.reply(0, 0, 1, 2);
        checks.holds("18 answer", !x.isSame(0));
        x.reply(0, 0, 1, 0);
        checks.holds("18 no answer", x.isSame(0));
        x.reply(0, 0, NONE, 1);
        checks.holds("18 answer to the whole", !x.isSame(0));
        x.undo();
        x.repeat(0, 0, 2, 1, 7, 3);
        checks.holds("18 another rule, the same dates", x.isSame(0));
        x.remove(0, 1);
        checks.holds("18 one that shows nothing is not there", x.isSame(0));
        x.create(0, 1, 900, 0, 10, 0);
        checks.holds("18 another day", !x.isSame(0));
        x.cancel(0, 1, 0);
        checks.holds("18 neither shows it", x.isSame(0));
        x.reply(0, 1, NONE, 1);
        checks.holds("18 an answer to what is not shown", x.isSame(0));
        x.remove(0, 0);
        checks.holds("18 removed", !x.isSame(0));
        CalendarSync lengths = Feeding.of("zone 0;event 0 0 10 0;event 0 0 10 0 not 0;");
        lengths.remove(0, 1);
        lengths.create(0, 1, 0, 0, 11, 0);
        lengths.cancel(0, 1, 0);
        checks.holds("18 the length of what is not shown", lengths.isSame(0));
        lengths.remove(0, 0);
        lengths.create(0, 0, 0, 0, 11, 0);
        checks.holds("18 length", !lengths.isSame(0));
        CalendarSync zones = Feeding.of("zone 0;event 0 0 10 0;");
        zones.setZone(0, 1, NONE, 0);
        checks.holds("18 moments by own zones", !zones.isSame(0));
        zones.pull(0);
        checks.holds("18 same zones", zones.isSame(0) && !zones.isSame(1));
        // Side 1 learns the answer that side 0 gave.
        CalendarSync answers = Feeding.of("zone 0;event 0 0 10 0;");
        answers.reply(0, 0, NONE, 1);
        answers.push(0);
        checks.holds("18 answers of both sides", answers.isSame(0) && !answers.isSame(1));
        answers.reply(0, 0, 0, 1);
        checks.holds("18 the same answer to the date", answers.isSame(0));
        answers.pull(1);
        checks.holds("18 pulled", answers.isSame(1));
        answers.reply(1, 0, 0, 2);
        checks.holds("18 side 1's answer", answers.isSame(0) && !answers.isSame(1));
        answers.push(1);
        checks.holds("18 side 1's answer in the store", !answers.isSame(0) && answers.isSame(1));
        // The same moments, but of other dates.
        CalendarSync numbers = Feeding.of("zone 0;event 0 0 10 0 every 1 days times 2 not 1;");
        numbers.cancel(0, 0, 0);
        numbers.cancel(0, 0, 1);
        numbers.move(0, 0, 1, 0, 0);
        checks.holds("18 other dates", !numbers.isSame(0));
        checks.argument("18 side", () -> numbers.isSame(2) ? 1 : 0);
        checks.argument("18 side", () -> numbers.isSame(-1) ? 1 : 0);
    }

    private void clock() {
        CalendarSync x = Feeding.of("zone 0;event 0 0 10 0;");
        x.cancel(0, 0, 0);
        checks.same("19 a side's act is no change of the store", 0, x.clock());
        x.push(0);
        checks.same("19 push", 1, x.clock());
        x.push(0);
        x.pull(1);
        checks.same("19 nothing to push", 1, x.clock());
        x.setZone(0, 0, NONE, 0);
        checks.same("19 a zone", 2, x.clock());
        x.undo();
        checks.same("19 undone", 1, x.clock());
    }

    private void side() {
        CalendarSync x = Feeding.of("zone 0;event 0 0 10 0;event 0 0 10 0;event 0 0 10 0;");
        x.reply(0, 0, 0, 1);
        x.cancel(0, 1, 0);
        x.remove(0, 2);
        x.create(0, 5, 0, 0, 1, 0);
        checks.same("20 changed", 0x27, x.side(0, 1));
        checks.same("20 content", 0x26, x.side(0, 2));
        checks.same("20 the other side", 0, x.side(1, 1));
        checks.same("20 token", 0, x.side(0, 0));
        x.push(0);
        checks.same("20 behind a push", 0, x.side(0, 1));
        checks.same("20 behind a push", 0, x.side(0, 2));
        checks.same("20 token", 0, x.side(0, 0));
        checks.same("20 told of own changes, too", 0x27, x.side(0, 4));
        checks.same("20 told, also of removed ones", 0x27, x.side(1, 4));
        x.pull(1);
        checks.same("20 token", 4, x.side(1, 0));
        checks.same("20 nothing to tell", 0, x.side(1, 4));
        for (int k = 0; k < 4; k++) {
            checks.same("20 too old", 0, x.side(0, 3));
            x.setZone(0, k, NONE, 0);
        }
        checks.same("20 8 changes behind", 0, x.side(0, 3));
        checks.same("20 all are remembered", 0x27, x.side(0, 4));
        x.setZone(0, 9, NONE, 0);
        checks.same("20 9 changes behind", 1, x.side(0, 3));
        checks.same("20 all events of the store", 0x23, x.side(0, 4));
        checks.same("20 the other one is not", 0, x.side(1, 3));
        checks.same("20 zones concern no event", 0, x.side(1, 4));
        checks.argument("20 side", () -> x.side(2, 0));
        checks.argument("20 side", () -> x.side(-1, 0));
        checks.argument("20 what", () -> x.side(0, 5));
        checks.argument("20 what", () -> x.side(0, -1));
        x.create(1, 7, 0, 0, 1, 0);
        x.remove(1, 7);
        checks.same("20 made and removed", 0x80, x.side(1, 1));
        checks.same("20 made and removed", 0x80, x.side(1, 2));
    }

    private void account() {
        CalendarSync x = Feeding.of("zone 0;event 0 0 10 0;event 0 0 10 0;event 0 0 10 0;");
        x.cancel(0, 0, 0);
        x.cancel(0, 1, 0);
        x.push(0);
        accounts("21 accepted", x, 0, 2, 0, 0, 0, 0, 0);
        x.reply(1, 0, 0, 1);
        x.cancel(1, 1, 0);
        x.cancel(1, 2, 0);
        x.push(1);
        accounts("21 one each", x, 1, 1, 1, 1, 0, 0, 0);
        x.pull(1);
        accounts("21 told", x, 1, 1, 1, 1, 1, 0, 3);
        x.pull(1);
        accounts("21 told nothing", x, 1, 1, 1, 1, 2, 0, 3);
        for (int k = 0; k < 5; k++) {
            x.setZone(0, k, NONE, 0);
        }
        x.pull(0);
        accounts("21 too old", x, 0, 2, 0, 0, 1, 1, 3);
        x.sync(0);
        accounts("21 a sync pulls", x, 0, 2, 0, 0, 2, 1, 3);
        checks.argument("21 side", () -> x.account(2, 0));
        checks.argument("21 side", () -> x.account(-1, 0));
        checks.argument("21 what", () -> x.account(0, 6));
        checks.argument("21 what", () -> x.account(0, -1));
    }

    private void accounts(String what, CalendarSync x, int side, int... due) {
        for (int k = 0; k < 6; k++) {
            checks.same(what + ", account " + k, due[k], x.account(side, k));
        }
    }

    // ---- 22 to 27

    private void create() {
        CalendarSync x = Feeding.of("zone 0;zone 60;event 0 0 10 0;");
        checks.same("22 how many", 2, x.create(0, 7, 1094, 1439, 1440, 1));
        checks.same("22 how many", 3, x.create(0, 1, 0, 0, 1, 0));
        int[] due = {1094, 1439, 1440, 1, 0, 0, 0, 1, NONE, 1, 0, 0};
        for (int k = 0; k < 12; k++) {
            checks.same("22 what " + k, due[k], x.event(0, 7, k));
        }
        checks.same("22 changed", 0x82, x.side(0, 1));
        checks.same("22 content", 0x82, x.side(0, 2));
        checks.same("22 the store has it not", 1, x.events(2));
        checks.same("22 no answers", 0, x.answer(0, 7, 0));
        checks.argument("22 side", () -> x.create(2, 0, 0, 0, 1, 9));
        checks.argument("22 side", () -> x.create(-1, 0, 0, 0, 1, 0));
        checks.argument("22 event", () -> x.create(0, 8, 0, 0, 1, 9));
        checks.argument("22 event", () -> x.create(0, -1, 0, 0, 1, 0));
        checks.argument("22 day", () -> x.create(0, 0, 1095, 0, 1, 9));
        checks.argument("22 day", () -> x.create(0, 2, -1, 0, 1, 0));
        checks.argument("22 minute", () -> x.create(0, 0, 0, 1440, 1, 9));
        checks.argument("22 minute", () -> x.create(0, 2, 0, -1, 1, 0));
        checks.argument("22 length", () -> x.create(0, 0, 0, 0, 0, 9));
        checks.argument("22 length", () -> x.create(0, 2, 0, 0, 1441, 0));
        checks.element("22 zone", () -> x.create(0, 0, 0, 0, 1, 2));
        checks.element("22 zone", () -> x.create(0, 2, 0, 0, 1, -1));
        checks.state("22 there", () -> x.create(0, 0, 0, 0, 1, 0));
        checks.state("22 there", () -> x.create(0, 7, 0, 0, 1, 0));
        checks.same("22 two acts", 1, x.undo());
    }

    private void createAgain() {
        CalendarSync x = Feeding.of("zone 0;event 3 4 10 0 every 1 days times 5 not 1 move 2 9 9;");
        x.reply(1, 0, NONE, 2);
        x.reply(1, 0, 3, 3);
        x.sync(1);
        x.sync(0);
        x.reply(0, 0, 0, 1);
        x.reply(0, 0, NONE, 1);
        x.remove(0, 0);
        checks.same("22 comes back", 1, x.create(0, 0, 5, 6, 7, 0));
        int[] due = {5, 6, 7, 0, 0, 0, 0, 1, 1, 1, 0, 0};
        for (int k = 0; k < 12; k++) {
            checks.same("22 back, what " + k, due[k], x.event(0, 0, k));
        }
        checks.same("22 back without answers", 0, x.answer(0, 0, 0));
        checks.same("22 back without answers", 0, x.answer(0, 0, 1));
        checks.same("22 back without answers", 0, x.date(0, 0, 0, 5));
        x.repeat(0, 0, 1, 1, 0, 5);
        checks.same("22 back without answers", 0, x.date(0, 0, 3, 6));
        checks.same("22 is accepted", 0, x.push(0));
        checks.same("22 is accepted", 1, x.account(0, 0));
        checks.same("22 the store has it", 5, x.event(2, 0, 0));
        checks.same("22 the store has no answers", 0, x.answer(2, 0, 1));

        // Removed and pushed, it has no version any more.
        x.remove(0, 0);
        x.push(0);
        x.create(0, 0, 1, 1, 1, 0);
        checks.same("22 pushed ahead", NONE, x.event(0, 0, 8));
        x.remove(0, 0);
        x.create(0, 0, 1, 1, 1, 0);
        checks.same("22 made, removed, made", NONE, x.event(0, 0, 8));
        checks.same("22 accepted", 0, x.push(0));
        checks.same("22 its version", 4, x.event(0, 0, 8));

        // One that the store has, but the side not, had not come from the store.
        x.create(1, 3, 1, 1, 1, 0);
        x.push(1);
        x.create(0, 3, 2, 2, 2, 0);
        checks.same("22 not from the store", NONE, x.event(0, 3, 8));
        checks.same("22 refused", 1, x.push(0));
        checks.same("22 becomes that of the store", 1, x.event(0, 3, 0));
    }

    private void repeat() {
        CalendarSync x = Feeding.of("zone 0;event 3 4 10 0 every 1 days times 5 not 1 move 2 9 9;");
        x.reply(0, 0, 0, 1);
        x.reply(0, 0, NONE, 2);
        checks.same("23 weeks", 4, x.repeat(0, 0, 2, 2, 24, 4));
        int[] due = {3, 4, 10, 0, 2, 2, 24, 4, 0, 4, 0, 0};
        for (int k = 0; k < 12; k++) {
            checks.same("23 what " + k, due[k], x.event(0, 0, k));
        }
        checks.same("23 no answer to dates", 2, x.date(0, 0, 0, 5));
        checks.same("23 the answer to the whole stays", 2, x.answer(0, 0, 0));
        checks.same("23 content", 1, x.side(0, 2));
        checks.same("23 days", 30, x.repeat(0, 0, 1, 9, LEAST, 30));
        checks.same("23 no weekdays", 0, x.event(0, 0, 6));
        checks.same("23 months", 5, x.repeat(0, 0, 3, 7, MOST, 5));
        checks.same("23 no weekdays", 0, x.event(0, 0, 6));
        checks.same("23 n", 7, x.event(0, 0, 5));
        checks.same("23 once", 1, x.repeat(0, 0, 0, LEAST, MOST, 0));
        checks.same("23 n of once", 0, x.event(0, 0, 5));
        checks.same("23 weekdays of once", 0, x.event(0, 0, 6));
        checks.same("23 times of once", 1, x.event(0, 0, 7));
        checks.same("23 all weekdays", 30, x.repeat(0, 0, 2, 1, 127, 30));
        checks.same("23 weekdays", 127, x.event(0, 0, 6));
        checks.same("23 once, of weeks", 1, x.repeat(0, 0, 0, 1, 1, 1));
        checks.same("23 weekdays of once", 0, x.event(0, 0, 6));
        checks.same("23 no dates", 0, noDates());
        checks.argument("23 side", () -> x.repeat(2, 9, 1, 1, 1, 1));
        checks.argument("23 side", () -> x.repeat(-1, 0, 0, 1, 1, 1));
        checks.argument("23 kind", () -> x.repeat(0, 9, 4, 1, 1, 1));
        checks.argument("23 kind", () -> x.repeat(0, 0, -1, 1, 1, 1));
        for (int k = 1; k <= 3; k++) {
            int kind = k;
            checks.argument("23 n", () -> x.repeat(0, 9, kind, 0, 1, 1));
            checks.argument("23 n", () -> x.repeat(0, 0, kind, 10, 1, 1));
            checks.argument("23 times", () -> x.repeat(0, 9, kind, 1, 1, 0));
            checks.argument("23 times", () -> x.repeat(0, 0, kind, 1, 1, 31));
        }
        checks.argument("23 weekdays", () -> x.repeat(0, 9, 2, 1, 0, 1));
        checks.argument("23 weekdays", () -> x.repeat(0, 0, 2, 1, 128, 1));
        checks.argument("23 weekdays", () -> x.repeat(0, 0, 2, 1, -1, 1));
        checks.element("23 event", () -> x.repeat(0, 1, 1, 1, 1, 1));
        checks.element("23 event", () -> x.repeat(0, 8, 0, 1, 1, 1));
        checks.element("23 event", () -> x.repeat(0, -1, 0, 1, 1, 1));
        // The answers of both sides to dates go.
        CalendarSync y = Feeding.of("zone 0;event 3 4 10 0;");
        y.reply(1, 0, 0, 3);
        y.sync(1);
        y.pull(0);
        y.repeat(0, 0, 1, 1, 1, 2);
        checks.same("23 the other side's answer", 0, y.date(0, 0, 0, 6));
    }

    private static int noDates() {
        return Feeding.of("zone 0;event 1094 0 1 0;").repeat(0, 0, 2, 1, 1, 9);
    }

    private void cancel() {
        CalendarSync x = Feeding.of("zone 0;event 3 4 10 0 every 1 days times 5 not 1;");
        checks.same("24 cancelled", 3, x.cancel(0, 0, 4));
        checks.same("24 which", 18, x.event(0, 0, 10));
        checks.same("24 shown again", 4, x.cancel(0, 0, 1));
        checks.same("24 which", 16, x.event(0, 0, 10));
        checks.same("24 content", 1, x.side(0, 2));
        checks.same("24 the store has it not", 2, x.event(2, 0, 10));
        checks.argument("24 side", () -> x.cancel(2, 9, 9));
        checks.argument("24 side", () -> x.cancel(-1, 0, 0));
        checks.element("24 event", () -> x.cancel(0, 1, 9));
        checks.element("24 event", () -> x.cancel(0, -1, 0));
        checks.index("24 date", () -> x.cancel(0, 0, 5));
        checks.index("24 date", () -> x.cancel(0, 0, -1));
        checks.index("24 date", () -> x.cancel(0, 0, 32));
        checks.same("24 two acts", 1, x.undo());
    }

    private void move() {
        CalendarSync x = Feeding.of("zone 60 summer 100 100;event 3 4 10 0 every 1 days times 5;");
        checks.same("25 moved", 100 * 1440 + 7 - 120, x.move(0, 0, 1, 100, 7));
        checks.same("25 day", 100, x.date(0, 0, 1, 0));
        checks.same("25 minute", 7, x.date(0, 0, 1, 1));
        checks.same("25 which", 2, x.event(0, 0, 11));
        checks.same("25 again", 1094 * 1440 + 1439 - 60, x.move(0, 0, 1, 1094, 1439));
        checks.same("25 to day 0", -60, x.move(0, 0, 0, 0, 0));
        checks.same("25 which", 3, x.event(0, 0, 11));
        checks.same("25 taken back", 4 * 1440 + 4 - 60, x.move(0, 0, 1, NONE, LEAST));
        checks.same("25 which", 1, x.event(0, 0, 11));
        checks.same("25 not moved, taken back", 5 * 1440 + 4 - 60, x.move(0, 0, 2, NONE, 0));
        checks.same("25 content", 1, x.side(0, 2));
        checks.same("25 moved to its own time is moved", 6 * 1440 + 4 - 60, x.move(0, 0, 3, 6, 4));
        checks.same("25 which", 9, x.event(0, 0, 11));
        x.setZone(0, 0, NONE, 0);
        checks.same("25 by the side's zones", 1440 - 60, x.move(0, 0, 0, 1, 0));
        checks.argument("25 side", () -> x.move(2, 9, 9, 0, 0));
        checks.argument("25 side", () -> x.move(-1, 0, 0, 0, 0));
        checks.argument("25 day", () -> x.move(0, 9, 9, 1095, 0));
        checks.argument("25 day", () -> x.move(0, 0, 0, -2, 0));
        checks.argument("25 minute", () -> x.move(0, 9, 9, 0, 1440));
        checks.argument("25 minute", () -> x.move(0, 0, 0, 0, -1));
        checks.element("25 event", () -> x.move(0, 1, 9, 0, 0));
        checks.element("25 event", () -> x.move(0, 8, 0, NONE, 0));
        checks.index("25 date", () -> x.move(0, 0, 5, 0, 0));
        checks.index("25 date", () -> x.move(0, 0, -1, NONE, 0));
    }

    private void reply() {
        CalendarSync x = Feeding.of("zone 0;event 3 4 10 0 every 1 days times 30;");
        checks.same("26 none ahead", 0, x.reply(1, 0, NONE, 3));
        checks.same("26 previous", 3, x.reply(1, 0, NONE, 1));
        checks.same("26 to a date: none ahead", 0, x.reply(1, 0, 29, 2));
        checks.same("26 previous", 2, x.reply(1, 0, 29, 3));
        checks.same("26 another date", 0, x.reply(1, 0, 28, 1));
        checks.same("26 the date has it", 3, x.date(1, 0, 29, 6));
        checks.same("26 taken back", 3, x.reply(1, 0, 29, 0));
        checks.same("26 that to the whole", 1, x.date(1, 0, 29, 6));
        checks.same("26 the neighbour stays", 1, x.reply(1, 0, 28, 2));
        checks.same("26 changed", 1, x.side(1, 1));
        checks.same("26 not its content", 0, x.side(1, 2));
        checks.same("26 its own alone", 0, x.answer(1, 0, 0));
        checks.same("26 in its copy alone", 0, x.answer(0, 0, 1));
        x.push(1);
        x.reply(1, 0, NONE, 1);
        checks.same("26 changed by the same answer, too", 1, x.side(1, 1));
        checks.argument("26 side", () -> x.reply(2, 9, 99, 0));
        checks.argument("26 side", () -> x.reply(-1, 0, 0, 0));
        checks.argument("26 answer", () -> x.reply(0, 9, 99, 4));
        checks.argument("26 answer", () -> x.reply(0, 0, 0, -1));
        checks.element("26 event", () -> x.reply(0, 1, 99, 0));
        checks.element("26 event", () -> x.reply(0, -1, NONE, 0));
        checks.index("26 date", () -> x.reply(0, 0, 30, 0));
        checks.index("26 date", () -> x.reply(0, 0, -2, 0));
        // All dates keep their answers apart.
        for (int d = 0; d < 30; d++) {
            x.reply(0, 0, d, d % 4);
        }
        for (int d = 0; d < 30; d++) {
            checks.same("26 date " + d, d % 4, x.date(0, 0, d, 5));
        }
    }

    private void remove() {
        CalendarSync x = Feeding.of("zone 0;event 3 4 10 0;event 3 4 10 0;");
        checks.same("27 how many", 1, x.remove(0, 0));
        checks.same("27 which", 2, x.events(0));
        checks.same("27 the store has it", 3, x.events(2));
        checks.same("27 changed", 1, x.side(0, 1));
        checks.same("27 content", 1, x.side(0, 2));
        checks.same("27 nothing is shown of it", 1, x.agenda(0, 0, MOST));
        checks.element("27 removed", () -> x.remove(0, 0));
        checks.element("27 event", () -> x.remove(0, 8));
        checks.element("27 event", () -> x.remove(0, -1));
        checks.element("27 removed", () -> x.reply(0, 0, NONE, 1));
        checks.argument("27 side", () -> x.remove(2, 9));
        checks.argument("27 side", () -> x.remove(-1, 0));
        checks.same("27 the last one", 0, x.remove(0, 1));
    }

    // ---- 28 to 31

    private void setZone() {
        CalendarSync x = Feeding.of("zone 0;zone 5;event 3 4 10 0;");
        checks.same("28 clock", 1, x.setZone(0, -720, 0, 364));
        checks.same("28 offset", -720, x.zone(2, 0, 0));
        checks.same("28 first", 0, x.zone(2, 0, 1));
        checks.same("28 last", 364, x.zone(2, 0, 2));
        checks.same("28 version", 1, x.zone(2, 0, 3));
        checks.same("28 clock", 2, x.setZone(1, 720, 364, 364));
        checks.same("28 version", 2, x.zone(2, 1, 3));
        checks.same("28 version of the other one", 1, x.zone(2, 0, 3));
        checks.same("28 clock", 3, x.setZone(0, 1, NONE, LEAST));
        checks.same("28 no summer", NONE, x.zone(2, 0, 1));
        checks.same("28 no summer", NONE, x.zone(2, 0, 2));
        checks.same("28 the event keeps its version", 0, x.event(2, 0, 8));
        checks.same("28 concerns no event", 0, x.side(0, 4));
        checks.same("28 is no change of a side", 0, x.side(0, 1));
        checks.same("28 the same once more is a change", 4, x.setZone(0, 1, NONE, 5));
        checks.element("28 zone", () -> x.setZone(2, 721, 9, 8));
        checks.element("28 zone", () -> x.setZone(-1, 0, 0, 0));
        checks.argument("28 offset", () -> x.setZone(0, 721, NONE, 0));
        checks.argument("28 offset", () -> x.setZone(0, -721, NONE, 0));
        checks.argument("28 first", () -> x.setZone(0, 0, 365, 365));
        checks.argument("28 first", () -> x.setZone(0, 0, -2, 5));
        checks.argument("28 last", () -> x.setZone(0, 0, 5, 4));
        checks.argument("28 last", () -> x.setZone(0, 0, 5, 365));
        checks.argument("28 last", () -> x.setZone(0, 0, 0, NONE));
        checks.same("28 four acts", 3, x.undo());
    }

    private void pushAccepts() {
        CalendarSync x = Feeding.of("zone 0;event 3 4 10 0 every 1 days times 3;event 1 1 1 0;event 2 2 2 0;");
        x.cancel(0, 0, 1);
        x.reply(0, 0, 0, 1);
        x.reply(0, 1, NONE, 2);
        x.remove(0, 2);
        x.create(0, 4, 7, 7, 7, 0);
        x.create(0, 5, 7, 7, 7, 0);
        x.remove(0, 5);
        checks.same("29 none refused", 0, x.push(0));
        checks.same("29 one change each", 4, x.clock());
        accounts("29 accepted", x, 0, 4, 0, 0, 0, 0, 0);
        checks.same("29 events", 0x13, x.events(2));
        checks.same("29 by their numbers", 1, x.event(2, 0, 8));
        checks.same("29 by their numbers", 2, x.event(2, 1, 8));
        checks.same("29 by their numbers", 4, x.event(2, 4, 8));
        checks.same("29 the side's version", 1, x.event(0, 0, 8));
        checks.same("29 the side's version", 4, x.event(0, 4, 8));
        checks.same("29 content", 2, x.event(2, 0, 10));
        checks.same("29 answers to dates", 1, x.date(2, 0, 0, 5));
        checks.same("29 answers to the whole", 2, x.answer(2, 1, 0));
        checks.same("29 nothing is changed any more", 0, x.side(0, 1));
        checks.same("29 no content", 0, x.side(0, 2));
        checks.same("29 the other side has it not", 7, x.events(1));
        checks.same("29 made and removed is not told", 0x17, x.side(1, 4));
        checks.same("29 once more", 0, x.push(0));
        checks.same("29 nothing to push", 4, x.clock());
        checks.argument("29 side", () -> x.push(2));
        checks.argument("29 side", () -> x.push(-1));
        // An accepted event has its version from the store, so the next change is accepted, too.
        x.move(0, 4, 0, 9, 9);
        checks.same("29 again", 0, x.push(0));
        checks.same("29 again", 5, x.event(2, 4, 8));
        // The store is not moved by what the side does later.
        x.move(0, 4, 0, 8, 8);
        checks.same("29 apart", 9, x.date(2, 4, 0, 0));
    }

    private void pushMerges() {
        CalendarSync x = Feeding.of("zone 0;event 3 4 10 0 every 1 days times 5;");
        x.reply(1, 0, 4, 1);
        x.reply(1, 0, 0, 2);
        x.sync(1);
        x.reply(0, 0, NONE, 3);
        x.reply(0, 0, 1, 1);
        checks.same("29 merged is not refused", 0, x.push(0));
        accounts("29 merged", x, 0, 0, 1, 0, 0, 0, 0);
        checks.same("29 is a change", 2, x.clock());
        checks.same("29 version", 2, x.event(2, 0, 8));
        checks.same("29 the side's copy is that of the store", 2, x.event(0, 0, 8));
        checks.same("29 with the other side's answer", 1, x.date(0, 0, 4, 6));
        checks.same("29 the store has both", 1, x.date(2, 0, 4, 6));
        checks.same("29 the store has both", 3, x.date(2, 0, 4, 5));
        checks.same("29 the store has both", 1, x.date(2, 0, 1, 5));

        // Side 1 takes an answer back, while side 0 moves a date.
        x.pull(1);
        x.move(0, 0, 2, 50, 50);
        x.push(0);
        x.reply(1, 0, 0, 0);
        x.reply(1, 0, 1, 3);
        checks.same("29 merged", 0, x.push(1));
        checks.same("29 the content is that of the store", 50, x.date(1, 0, 2, 0));
        checks.same("29 in place of those it had", 0, x.date(2, 0, 0, 6));
        checks.same("29 all of them", 1, x.date(2, 0, 4, 6));
        checks.same("29 an answer to a date", 3, x.date(2, 0, 1, 6));
        checks.same("29 side 0's answers stay", 1, x.date(2, 0, 1, 5));
        checks.same("29 version", 4, x.event(1, 0, 8));
        // Meanwhile the store's event got fewer dates.
        x.pull(0);
        x.repeat(0, 0, 1, 2, 0, 2);
        x.push(0);
        x.reply(1, 0, 4, 2);
        checks.same("29 merged", 0, x.push(1));
        checks.same("29 dates", 2, x.event(1, 0, 9));
        checks.same("29 an answer to a date that it has", 3, x.date(2, 0, 1, 6));
        checks.index("29 the others are left out", () -> x.date(2, 0, 4, 6));
        // All 30 dates have answers that are merged.
        CalendarSync all = Feeding.of("zone 0;event 3 4 10 0 every 1 days times 30;");
        all.move(0, 0, 0, 1, 1);
        all.push(0);
        for (int d = 0; d < 30; d++) {
            all.reply(1, 0, d, 1 + d % 3);
        }
        all.push(1);
        checks.same("29 merged", 1, all.account(1, 1));
        for (int d = 0; d < 30; d++) {
            checks.same("29 date " + d, 1 + d % 3, all.date(2, 0, d, 6));
        }
        // A side that has fewer dates replaces all of its answers.
        CalendarSync y = Feeding.of("zone 0;event 3 4 10 0;");
        y.pull(1);
        y.repeat(0, 0, 1, 1, 0, 3);
        y.reply(0, 0, 2, 1);
        y.push(0);
        y.reply(1, 0, NONE, 2);
        y.push(1);
        checks.same("29 side 0's stay", 1, y.date(2, 0, 2, 5));
        checks.same("29 whole", 2, y.date(2, 0, 2, 6));
        checks.same("29 dates", 3, y.event(1, 0, 9));
        // A new object of the same number is merged with, too.
        CalendarSync z = Feeding.of("zone 0;event 3 4 10 0;");
        z.remove(0, 0);
        z.push(0);
        z.create(0, 0, 9, 9, 9, 0);
        z.push(0);
        z.reply(1, 0, 0, 3);
        checks.same("29 merged", 0, z.push(1));
        checks.same("29 merged", 1, z.account(1, 1));
        checks.same("29 into the new one", 3, z.date(2, 0, 0, 6));
        checks.same("29 which the side has then", 9, z.event(1, 0, 0));
    }

    private void pushRefuses() {
        CalendarSync x = Feeding.of("zone 0;event 3 4 10 0;event 3 4 10 0;event 3 4 10 0;event 3 4 10 0;");
        x.move(0, 0, 0, 8, 8);
        x.remove(0, 1);
        x.remove(0, 2);
        x.move(0, 3, 0, 8, 8);
        x.push(0);
        x.move(1, 0, 0, 9, 9);
        x.reply(1, 1, NONE, 1);
        x.remove(1, 2);
        x.remove(1, 3);
        checks.same("29 all are refused", 4, x.push(1));
        accounts("29 refused", x, 1, 0, 0, 4, 0, 0, 0);
        checks.same("29 no change", 4, x.clock());
        checks.same("29 becomes that of the store", 8, x.date(1, 0, 0, 0));
        checks.same("29 with its version", 1, x.event(1, 0, 8));
        checks.same("29 no longer there, or there again", 9, x.events(1));
        checks.same("29 there again", 8, x.date(1, 3, 0, 0));
        checks.same("29 nothing is changed", 0, x.side(1, 1));
        checks.same("29 nothing is changed", 0, x.side(1, 2));
        checks.same("29 then it is accepted", 0, pushMoved(x));
        // What is no longer there had not come from the store then.
        x.create(1, 1, 5, 5, 5, 0);
        checks.same("29 no version", NONE, x.event(1, 1, 8));
        checks.same("29 accepted", 0, x.push(1));
        // Made and removed at a side, while the store got one of the other side.
        CalendarSync y = new CalendarSync();
        y.create(0, 6, 1, 1, 1, 0);
        y.remove(0, 6);
        y.create(1, 6, 2, 2, 2, 0);
        y.push(1);
        y.pull(0);
        checks.same("29 a pull does not take it over", 0, y.events(0));
        checks.same("29 refused", 1, y.push(0));
        checks.same("29 the store's", 2, y.event(0, 6, 0));
        checks.same("29 the store keeps it", 64, y.events(2));
        // Answers and content: refused, as its content was changed.
        CalendarSync z = Feeding.of("zone 0;event 3 4 10 0;");
        z.reply(0, 0, NONE, 1);
        z.push(0);
        z.reply(1, 0, NONE, 1);
        z.cancel(1, 0, 0);
        z.cancel(1, 0, 0);
        checks.same("29 refused", 1, z.push(1));
        checks.same("29 its answer is lost", 0, z.answer(1, 0, 1));
    }

    private static int pushMoved(CalendarSync x) {
        x.move(1, 0, 0, 10, 10);
        return x.push(1);
    }

    private void pull() {
        CalendarSync x = Feeding.of("zone 0;event 3 4 10 0;event 3 4 10 0;event 3 4 10 0;");
        x.move(0, 0, 0, 8, 8);
        x.remove(0, 1);
        x.move(0, 2, 0, 8, 8);
        x.create(0, 5, 1, 1, 1, 0);
        x.push(0);
        x.setZone(0, 60, 1, 2);
        x.reply(1, 2, NONE, 1);
        checks.same("30 told", 4, x.pull(1));
        checks.same("30 events, also that one is not there", 0x25, x.events(1));
        checks.same("30 taken over", 8, x.date(1, 0, 0, 0));
        checks.same("30 with its version", 1, x.event(1, 0, 8));
        checks.same("30 not what it changed", 3, x.date(1, 2, 0, 0));
        checks.same("30 nor its version", 0, x.event(1, 2, 8));
        checks.same("30 which is changed still", 4, x.side(1, 1));
        checks.same("30 zones", 60, x.zone(1, 0, 0));
        checks.same("30 zones' versions", 5, x.zone(1, 0, 3));
        checks.same("30 token", 5, x.side(1, 0));
        checks.same("30 the other side's token", 0, x.side(0, 0));
        checks.same("30 nothing new", 0, x.pull(1));
        x.remove(1, 5);
        x.pull(1);
        checks.same("30 not what it removed", 5, x.events(1));
        x.create(1, 5, 9, 9, 9, 0);
        checks.same("30 that has its version still", 4, x.event(1, 5, 8));
        checks.argument("30 side", () -> x.pull(2));
        checks.argument("30 side", () -> x.pull(-1));
        // Taken over, it is apart from the store.
        CalendarSync y = Feeding.of("zone 0;event 3 4 10 0;");
        y.pull(0);
        y.move(0, 0, 0, 9, 9);
        checks.same("30 apart", 3, y.date(2, 0, 0, 0));
    }

    private void pullTells() {
        CalendarSync x = Feeding.of("zone 0;event 3 4 10 0;event 3 4 10 0;event 3 4 10 0;");
        for (int k = 0; k < 8; k++) {
            x.cancel(0, 1, 0);
            x.push(0);
        }
        checks.same("30 eight changes of one event", 1, x.pull(1));
        checks.same("30 not too old", 0, x.account(1, 4));
        for (int k = 0; k < 9; k++) {
            x.cancel(0, 1, 0);
            x.push(0);
        }
        checks.same("30 nine: all are told", 3, x.pull(1));
        checks.same("30 too old", 1, x.account(1, 4));
        checks.same("30 all told", 4, x.account(1, 5));
        checks.same("30 token", 17, x.side(1, 0));
        checks.same("30 too old for its own changes, too", 3, x.pull(0));
        x.remove(1, 2);
        x.push(1);
        checks.same("30 a removed one is told", 1, x.pull(0));
        // The different ones behind the token, those alone.
        x.cancel(1, 0, 0);
        x.cancel(1, 1, 0);
        x.push(1);
        x.pull(0);
        x.cancel(1, 1, 0);
        x.push(1);
        checks.same("30 behind the token", 2, x.side(0, 4));
        checks.same("30 behind the token", 1, x.pull(0));
        x.setZone(0, 1, NONE, 0);
        checks.same("30 a zone tells no event", 0, x.pull(0));
        // What is taken over is the same in both cases: with the latest changes, all others.
        CalendarSync y = Feeding.of("zone 0;event 3 4 10 0;");
        y.cancel(0, 0, 0);
        y.push(0);
        for (int k = 0; k < 9; k++) {
            y.setZone(0, k, NONE, 0);
        }
        checks.same("30 all events of the store", 1, y.pull(1));
        checks.same("30 taken over", 1, y.event(1, 0, 10));
    }

    private void sync() {
        CalendarSync x = Feeding.of("zone 0;event 3 4 10 0;event 3 4 10 0;event 3 4 10 0;");
        x.cancel(0, 0, 0);
        x.push(0);
        x.setZone(0, 7, NONE, 0);
        x.cancel(1, 1, 0);
        x.cancel(1, 0, 0);
        checks.same("31 told: own ones, too", 2, x.sync(1));
        accounts("31 accounts", x, 1, 1, 0, 1, 1, 0, 2);
        checks.same("31 token", 3, x.side(1, 0));
        checks.same("31 zones", 7, x.zone(1, 0, 0));
        checks.same("31 pushed", 1, x.event(2, 1, 10));
        checks.same("31 nothing is changed", 0, x.side(1, 1));
        checks.holds("31 same", x.isSame(1));
        checks.same("31 one act", 5, x.undo());
        checks.same("31 changed again", 3, x.side(1, 1));
        checks.argument("31 side", () -> x.sync(2));
        checks.argument("31 side", () -> x.sync(-1));
        // The push comes first: 9 changes make the token too old in the pull.
        CalendarSync y = Feeding.of("zone 0;" + "event 3 4 10 0;".repeat(8));
        y.setZone(0, 1, NONE, 0);
        for (int e = 0; e < 8; e++) {
            y.cancel(0, e, 0);
        }
        checks.same("31 not too old yet", 0, y.side(0, 3));
        checks.same("31 all", 8, y.sync(0));
        checks.same("31 too old", 1, y.account(0, 4));
    }

    // ---- 32 to 34

    private void undo() {
        CalendarSync x = Feeding.of("zone 0;event 3 4 10 0 every 1 days times 30;");
        checks.state("32 none", () -> x.undo());
        for (int d = 0; d < 14; d++) {
            x.cancel(0, 0, d);
        }
        for (int left = 11; left >= 0; left--) {
            checks.same("32 left", left, x.undo());
            checks.same("32 cancelled", (1 << left + 2) - 1, x.event(0, 0, 10));
        }
        checks.state("32 the latest 12 alone", () -> x.undo());
        x.cancel(0, 0, 20);
        x.cancel(0, 0, 21);
        x.undo();
        x.cancel(0, 0, 22);
        checks.same("32 the latest that was not undone", 1, x.undo());
        checks.same("32 cancelled", 3 | 1 << 20, x.event(0, 0, 10));
        checks.same("32 the one ahead of it", 0, x.undo());
        checks.same("32 cancelled", 3, x.event(0, 0, 10));
        // What throws is no act, neither are questions, feed() and keep().
        x.cancel(0, 0, 5);
        checks.index("32 throws", () -> x.cancel(0, 0, 30));
        checks.argument("32 throws", () -> x.push(2));
        checks.element("32 throws", () -> x.setZone(1, 0, 0, 0));
        x.events(0);
        x.agenda(0, 0, 1);
        x.feed(0x20202020, 0x20202020, 0x20202020, 0x20202020, 0x20202020);
        x.keep(1);
        checks.same("32 one act", 0, x.undo());
        checks.same("32 the buffer stays", 40, x.feed(0, 0, 0, 0, 0));
        checks.same("32 the slot stays", 0, x.restore(1));
        checks.same("32 what was kept", 35, x.event(0, 0, 10));
    }

    /** What is undone, or brought back, are the remembered changes, too. */
    private void undoOfChanges() {
        CalendarSync x = Feeding.of("zone 0;event 3 4 10 0;event 3 4 10 0;event 3 4 10 0;");
        x.cancel(0, 2, 0);
        x.push(0);
        for (int k = 0; k < 7; k++) {
            x.setZone(0, k, NONE, 0);
        }
        checks.same("32 told", 4, x.side(1, 4));
        x.keep(0);
        x.cancel(0, 1, 0);
        x.push(0);
        checks.same("32 too old", 7, x.side(1, 4));
        x.undo();
        checks.same("32 told again", 4, x.side(1, 4));
        for (int k = 0; k < 9; k++) {
            x.setZone(0, k, NONE, 0);
        }
        x.restore(0);
        checks.same("34 told again", 4, x.side(1, 4));
    }

    private void undoOfEachAct() {
        undone("create", x -> x.create(0, 7, 0, 0, 1, 0));
        undone("repeat", x -> x.repeat(0, 0, 3, 1, 1, 9));
        undone("cancel", x -> x.cancel(0, 0, 1));
        undone("move", x -> x.move(0, 0, 2, 9, 9));
        undone("reply", x -> x.reply(0, 0, 1, 3));
        undone("reply", x -> x.reply(0, 0, NONE, 3));
        undone("remove", x -> x.remove(0, 0));
        undone("setZone", x -> x.setZone(0, 5, 1, 2));
        undone("push", x -> x.push(0));
        undone("push", x -> x.push(1));
        undone("pull", x -> x.pull(0));
        undone("pull", x -> x.pull(1));
        undone("sync", x -> x.sync(0));
        undone("sync", x -> x.sync(1));
    }

    private interface Act {
        int of(CalendarSync x);
    }

    private void undone(String what, Act act) {
        String before = Picture.of(beforeAnAct());
        CalendarSync done = beforeAnAct();
        act.of(done);
        checks.holds("32 " + what + " does something", !before.equals(Picture.of(done)));
        CalendarSync x = beforeAnAct();
        act.of(x);
        checks.same("32 " + what, 9, x.undo());
        checks.holds("32 all is as before " + what, before.equals(Picture.of(x)));
    }

    private static CalendarSync beforeAnAct() {
        CalendarSync x = Feeding.of("zone 0 summer 3 4;event 3 4 10 0 every 1 days times 5 not 3 move 4 1 1;event 1 1 1 0;event 2 2 2 0;");
        x.cancel(1, 0, 0);
        x.cancel(1, 1, 0);
        x.sync(1);
        x.setZone(0, 1, NONE, 0);
        x.reply(0, 0, 2, 1);
        x.cancel(0, 1, 0);
        x.remove(0, 2);
        x.create(0, 5, 0, 0, 1, 0);
        x.reply(1, 0, 2, 2);
        return x;
    }

    /** Slot 0 has the calendar as it was told, slot 1 what came of two acts. */
    private static CalendarSync kept() {
        CalendarSync x = Feeding.of("zone 0;event 3 4 10 0 every 1 days times 6;");
        x.keep(0);
        x.cancel(0, 0, 0);
        x.sync(0);
        x.keep(1);
        return x;
    }

    private void slots() {
        CalendarSync x = Feeding.of("zone 0;event 3 4 10 0 every 1 days times 6;");
        String first = Picture.of(x);
        checks.element("34 empty", () -> x.restore(0));
        checks.element("34 empty", () -> x.restore(1));
        checks.same("33 clock", 0, x.keep(0));
        x.cancel(0, 0, 0);
        x.sync(0);
        checks.same("33 clock", 1, x.keep(1));
        CalendarSync z = kept();
        String second = Picture.of(kept());
        z.remove(1, 0);
        z.setZone(0, 9, 9, 9);
        checks.same("33 undo stays", 3, z.undo());
        checks.same("34 clock", 0, z.restore(0));
        checks.state("34 nothing can be undone", () -> z.undo());
        checks.holds("34 as it was", first.equals(Picture.of(z)));
        CalendarSync both = kept();
        both.restore(0);
        checks.same("34 clock", 1, both.restore(1));
        checks.holds("34 as it was", second.equals(Picture.of(both)));
        CalendarSync again = kept();
        again.restore(1);
        again.cancel(0, 0, 5);
        again.cancel(1, 0, 4);
        again.sync(1);
        again.setZone(0, 9, 9, 9);
        checks.same("34 it stays there", 1, again.restore(1));
        checks.holds("34 the slot is apart", second.equals(Picture.of(again)));
        again.setZone(0, 9, 9, 9);
        checks.same("33 in place of what it had", 2, again.keep(1));
        again.setZone(0, 10, NONE, 0);
        checks.same("34 the later one", 2, again.restore(1));
        checks.same("34 the other slot stays", 0, again.restore(0));
        again.feed(0x20202020, 0x20202020, 0x20202020, 0x20202020, 0x20202020);
        again.restore(1);
        checks.same("34 the buffer stays", 40, again.feed(0, 0, 0, 0, 0));
        checks.argument("33 slot", () -> x.keep(2));
        checks.argument("33 slot", () -> x.keep(-1));
        checks.argument("34 slot", () -> x.restore(2));
        checks.argument("34 slot", () -> x.restore(-1));
        // A restore of an empty slot changes nothing.
        CalendarSync y = new CalendarSync();
        y.push(0);
        checks.element("34 empty", () -> y.restore(1));
        checks.same("34 undo stays", 0, y.undo());
    }
}
