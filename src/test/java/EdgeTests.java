/**
 * The bounds that the document's sentences name, at them and one step beyond them: days and clocks, rules
 * that end with day 1094, what is empty, what is full, and what is too old. (What throws is in RefusalTests,
 * the texts are in TextEdgeTests.) No object is used for more than 512 calls.
 */
final class EdgeTests {
    private static final int NONE = CalendarSync.NONE;
    private static final int LEAST = Integer.MIN_VALUE;
    private static final int MOST = Integer.MAX_VALUE;
    private static final int DAY = 1440;
    private static final int[] MONTHS = {31, 28, 31, 30, 31, 30, 31, 31, 30, 31, 30, 31};

    private final Checks checks = new Checks();

    public static void main(String[] args) {
        EdgeTests tests = new EdgeTests();
        tests.monthsAndYears();
        tests.weekdays();
        tests.offsets();
        tests.summers();
        tests.minutesAndLengths();
        tests.onceAtTheEnds();
        tests.daysUpToTheLast();
        tests.weeksUpToTheLast();
        tests.weeksOfTheStart();
        tests.monthsWithoutTheDay();
        tests.monthsUpToTheLast();
        tests.lastDate();
        tests.moved();
        tests.cancelledAll();
        tests.answers();
        tests.agendaBounds();
        tests.clashBounds();
        tests.busyBounds();
        tests.nothingThere();
        tests.noDates();
        tests.eightEvents();
        tests.twelveActs();
        tests.whatIsNoAct();
        tests.eightChanges();
        tests.tooOld();
        tests.tokensOfBothSides();
        tests.versions();
        tests.pushOfNothing();
        tests.pushOfVersions();
        tests.pushWithoutTheStores();
        tests.answersLeftOut();
        tests.pullOfChanged();
        tests.sameAtTheBounds();
        tests.slotsEmptyAndFull();
        tests.manyCalls();
        tests.checks.end();
    }

    private static CalendarSync once(int day, int minute, int length) {
        return Feeding.of("zone 0;event " + day + " " + minute + " " + length + " 0;");
    }

    // ---- 1 DAYS AND ZONES

    private void monthsAndYears() {
        for (int year = 0; year < 3; year++) {
            CalendarSync x = new CalendarSync();
            int first = 365 * year;
            for (int month = 0; month < 12; month++) {
                int last = first + MONTHS[month] - 1;
                for (int day : new int[] {first, last}) {
                    checks.same("6 month of " + day, month + 1, x.day(day, 0));
                    checks.same("6 day of the month of " + day, day == first ? 1 : MONTHS[month], x.day(day, 1));
                    checks.same("6 year of " + day, year, x.day(day, 3));
                }
                first = last + 1;
            }
            checks.same("6 no leap days", 365 * (year + 1), first);
        }
        CalendarSync x = new CalendarSync();
        checks.same("6 the last one", 12, x.day(1094, 0));
        checks.same("6 the last one", 31, x.day(1094, 1));
        checks.same("6 the last one", 2, x.day(1094, 3));
    }

    private void weekdays() {
        CalendarSync x = new CalendarSync();
        int[][] due = {{0, 0}, {6, 6}, {7, 0}, {13, 6}, {363, 6}, {364, 0}, {365, 1}, {729, 1}, {730, 2}, {1091, 6}, {1092, 0}, {1094, 2}};
        for (int[] one : due) {
            checks.same("6 weekday of " + one[0], one[1], x.day(one[0], 2));
        }
    }

    private void offsets() {
        CalendarSync x = Feeding.of("zone -720;zone 720;zone 0;");
        int last = 1094 * DAY + 1439;
        checks.same("8 least offset", 720, x.moment(0, 0, 0, 0));
        checks.same("8 least offset", last + 720, x.moment(0, 0, 1094, 1439));
        checks.same("8 most offset", -720, x.moment(0, 1, 0, 0));
        checks.same("8 most offset", last - 720, x.moment(0, 1, 1094, 1439));
        checks.same("8 no offset", 0, x.moment(0, 2, 0, 0));
        checks.same("8 no offset", last, x.moment(0, 2, 1094, 1439));
        x.setZone(0, -719, 0, 364);
        x.setZone(1, 720, 0, 364);
        x.setZone(2, 719, NONE, 0);
        checks.same("28 offset", 719 - 60, x.moment(2, 0, 0, 0));
        checks.same("28 least moment of all", -780, x.moment(2, 1, 0, 0));
        checks.same("28 offset", last - 780, x.moment(2, 1, 1094, 1439));
        checks.same("28 offset", -719, x.moment(2, 2, 0, 0));
    }

    /** Both days of a summer are in it, in each year; the days next to them are not. */
    private void summers() {
        int[][] summers = {{0, 0}, {0, 1}, {364, 364}, {363, 364}, {0, 364}, {100, 100}, {100, 101}, {1, 363}};
        for (int[] summer : summers) {
            CalendarSync x = new CalendarSync();
            x.setZone(0, 0, summer[0], summer[1]);
            CalendarSync y = Feeding.of("zone 0 summer " + summer[0] + " " + summer[1] + ";");
            for (int near : new int[] {summer[0] - 1, summer[0], summer[1], summer[1] + 1}) {
                for (int day = Math.floorMod(near, 365); day < 1095; day += 365) {
                    int ofYear = day % 365;
                    int ahead = ofYear >= summer[0] && ofYear <= summer[1] ? 60 : 0;
                    for (int minute : new int[] {0, 1439}) {
                        int due = day * DAY + minute - ahead;
                        checks.same("8 summer from " + summer[0] + " to " + summer[1], due, x.moment(2, 0, day, minute));
                        checks.same("4 summer from " + summer[0] + " to " + summer[1], due, y.moment(1, 0, day, minute));
                        checks.same("28 a side has none yet", day * DAY + minute, x.moment(0, 0, day, minute));
                    }
                }
            }
        }
        CalendarSync none = Feeding.of("zone 0 summer 0 364;");
        none.setZone(0, 0, NONE, 365);
        checks.same("28 no summer, whatever its last day", 0, none.moment(2, 0, 0, 0));
        checks.same("28 no summer", NONE, none.zone(2, 0, 1));
        checks.same("28 no summer", NONE, none.zone(2, 0, 2));
        checks.same("28 no summer", 364 * DAY, none.moment(2, 0, 364, 0));
    }

    // ---- 2 EVENTS: start, length and rule

    private void minutesAndLengths() {
        for (int minute : new int[] {0, 1, 1438, 1439}) {
            for (int length : new int[] {1, 2, 1439, 1440}) {
                CalendarSync x = new CalendarSync();
                checks.same("22 create", 1, x.create(0, 0, 1094, minute, length, 0));
                checks.same("10 minute", minute, x.event(0, 0, 1));
                checks.same("10 length", length, x.event(0, 0, 2));
                int start = 1094 * DAY + minute;
                checks.same("16 its first minute", 0x3f800000, x.busyBits(0, start, start + 1));
                checks.same("16 its last minute", 0x3f800000, x.busyBits(0, start + length - 1, start + length));
                checks.same("16 ahead of it", 0, x.busyBits(0, start - 1, start));
                checks.same("16 behind it", 0, x.busyBits(0, start + length, start + length + 1));
            }
        }
    }

    private void onceAtTheEnds() {
        for (int day : new int[] {0, 1, 1093, 1094}) {
            CalendarSync x = once(day, 0, 1);
            checks.same("2 once", 1, x.event(0, 0, 9));
            checks.same("2 once", day, x.date(0, 0, 0, 4));
            checks.same("2 n of once", 0, x.event(0, 0, 5));
            checks.same("2 weekdays of once", 0, x.event(0, 0, 6));
            checks.same("2 times of once", 1, x.event(0, 0, 7));
        }
    }

    /** So many dates as the times tell, if the last one is at day 1094 at the latest. */
    private void daysUpToTheLast() {
        for (int n : new int[] {1, 2, 8, 9}) {
            for (int times : new int[] {1, 2, 29, 30}) {
                int start = 1094 - n * (times - 1);
                CalendarSync x = once(start, 0, 1);
                checks.same("23 the last one at day 1094", times, x.repeat(0, 0, 1, n, 0, times));
                checks.same("11 the last one", 1094, x.date(0, 0, times - 1, 4));
                checks.same("11 the first one", start, x.date(0, 0, 0, 4));
                checks.same("10 times", times, x.event(0, 0, 7));
                if (times > 1) {
                    CalendarSync y = once(start + 1, 0, 1);
                    checks.same("23 none at day 1095", times - 1, y.repeat(0, 0, 1, n, 0, times));
                    checks.same("11 the last one", 1095 - n, y.date(0, 0, times - 2, 4));
                    checks.same("10 its times stay", times, y.event(0, 0, 7));
                    CalendarSync z = once(start - 1, 0, 1);
                    checks.same("23 the last one at day 1093", times, z.repeat(0, 0, 1, n, 0, times));
                    checks.same("11 the last one", 1093, z.date(0, 0, times - 1, 4));
                }
            }
        }
    }

    /** Day 1094 is a Wednesday: the last one of a week that began at day 1092. */
    private void weeksUpToTheLast() {
        int[] onlyDate = {1092, 1093, 1094};
        for (int weekday = 0; weekday < 7; weekday++) {
            CalendarSync x = once(1092, 0, 1);
            checks.same("23 the last week", weekday < 3 ? 1 : 0, x.repeat(0, 0, 2, 1, 1 << weekday, 30));
            if (weekday < 3) {
                checks.same("11 its day", onlyDate[weekday], x.date(0, 0, 0, 4));
            }
        }
        for (int n = 1; n <= 9; n++) {
            // From the Monday n weeks ahead of the last one on: the Wednesdays, and then the Thursdays.
            CalendarSync x = once(1092 - 7 * n, 0, 1);
            checks.same("23 to day 1094", 2, x.repeat(0, 0, 2, n, 4, 30));
            checks.same("11 day 1094", 1094, x.date(0, 0, 1, 4));
            checks.same("23 none on a Thursday behind it", 1, x.repeat(0, 0, 2, n, 8, 30));
            checks.same("11 the first Thursday", 1095 - 7 * n, x.date(0, 0, 0, 4));
            // From a week later on, the next week of the rule is behind the last one.
            checks.same("23 one week alone", 1, once(1092 - 7 * (n - 1), 0, 1).repeat(0, 0, 2, n, 4, 30));
        }
        CalendarSync all = once(1065, 0, 1);
        checks.same("23 30 days up to the last", 30, all.repeat(0, 0, 2, 1, 127, 30));
        checks.same("11 the 30th", 1094, all.date(0, 0, 29, 4));
        CalendarSync less = once(1066, 0, 1);
        checks.same("23 29 days up to the last", 29, less.repeat(0, 0, 2, 1, 127, 30));
        CalendarSync more = once(1064, 0, 1);
        checks.same("23 30 of 31 days", 30, more.repeat(0, 0, 2, 1, 127, 30));
        checks.same("11 the 30th", 1093, more.date(0, 0, 29, 4));
    }

    /** The week of the start is the first one, from the day of the start on; the start need not be a date. */
    private void weeksOfTheStart() {
        for (int start = 7; start <= 14; start++) {
            int monday = start - start % 7;
            for (int n : new int[] {1, 2, 9}) {
                for (int weekday = 0; weekday < 7; weekday++) {
                    CalendarSync x = once(start, 0, 1);
                    checks.same("23 two times", 2, x.repeat(0, 0, 2, n, 1 << weekday, 2));
                    boolean isInFirstWeek = monday + weekday >= start;
                    int first = monday + weekday + (isInFirstWeek ? 0 : 7 * n);
                    checks.same("11 first from " + start, first, x.date(0, 0, 0, 4));
                    checks.same("11 second from " + start, first + 7 * n, x.date(0, 0, 1, 4));
                    checks.same("10 the start stays", start, x.event(0, 0, 0));
                }
            }
        }
        CalendarSync x = once(6, 0, 1);
        x.repeat(0, 0, 2, 9, 127, 9);
        checks.same("11 one day of the first week", 6, x.date(0, 0, 0, 4));
        checks.same("11 the ninth week behind it", 63, x.date(0, 0, 1, 4));
        checks.same("11 all its days", 69, x.date(0, 0, 7, 4));
        checks.same("11 the next one", 126, x.date(0, 0, 8, 4));
    }

    /** From January on: a day of the month that some months have not. */
    private void monthsWithoutTheDay() {
        for (int dayOfMonth = 28; dayOfMonth <= 31; dayOfMonth++) {
            for (int n : new int[] {1, 2, 9}) {
                CalendarSync x = once(dayOfMonth - 1, 0, 1);
                int dates = x.repeat(0, 0, 3, n, 0, 30);
                int date = 0;
                int first = 0;
                for (int month = 0; month < 36; month++) {
                    if (month % n == 0 && MONTHS[month % 12] >= dayOfMonth && date < 30) {
                        checks.same("11 the " + dayOfMonth + "th of month " + month, first + dayOfMonth - 1, x.date(0, 0, date, 4));
                        date++;
                    }
                    first += MONTHS[month % 12];
                }
                checks.same("23 dates at the " + dayOfMonth + "th", date, dates);
            }
        }
        // The start is in the last month that has its day: months left out do not count as times.
        CalendarSync x = once(30, 0, 1);
        checks.same("23 two times", 2, x.repeat(0, 0, 3, 1, 0, 2));
        checks.same("11 March, not February", 89, x.date(0, 0, 1, 4));
        checks.same("11 its day of the month", 31, x.day(89, 1));
        CalendarSync y = once(59, 0, 1);
        y.repeat(0, 0, 3, 1, 0, 3);
        checks.same("11 from the first of March", 90, y.date(0, 0, 1, 4));
        checks.same("11 from the first of March", 120, y.date(0, 0, 2, 4));
        CalendarSync z = once(58, 0, 1);
        z.repeat(0, 0, 3, 1, 0, 3);
        checks.same("11 from the 28th of February", 58 + 28, z.date(0, 0, 1, 4));
        checks.same("11 from the 28th of February", 58 + 59, z.date(0, 0, 2, 4));
    }

    private void monthsUpToTheLast() {
        CalendarSync x = once(1094, 0, 1);
        checks.same("23 the last day", 1, x.repeat(0, 0, 3, 1, 0, 30));
        checks.same("11 the last day", 1094, x.date(0, 0, 0, 4));
        CalendarSync y = once(1094 - 61, 0, 1);
        checks.same("23 the 31st of October, and of December", 2, y.repeat(0, 0, 3, 1, 0, 30));
        checks.same("11 day 1094", 1094, y.date(0, 0, 1, 4));
        checks.same("23 each second month", 2, y.repeat(0, 0, 3, 2, 0, 30));
        checks.same("23 each third month", 1, y.repeat(0, 0, 3, 3, 0, 30));
        // Months 6 to 35 are 30; from month 7 on there are 29, from month 5 on 31.
        checks.same("23 30 months", 30, once(181, 0, 1).repeat(0, 0, 3, 1, 0, 30));
        checks.same("23 29 months", 29, once(212, 0, 1).repeat(0, 0, 3, 1, 0, 30));
        CalendarSync z = once(151, 0, 1);
        checks.same("23 30 of 31 months", 30, z.repeat(0, 0, 3, 1, 0, 30));
        checks.same("11 the first of November", 1064 - 30, z.date(0, 0, 29, 4));
        CalendarSync nine = once(334, 0, 1);
        checks.same("23 each ninth month", 3, nine.repeat(0, 0, 3, 9, 0, 30));
        checks.same("11 the last one", 730 + 151, nine.date(0, 0, 2, 4));
    }

    /** Date 29 of 30, in each bit set and each answer. */
    private void lastDate() {
        CalendarSync x = Feeding.of("zone 0;event 0 0 1 0 every 9 days times 30 not 29 move 29 1094 1439;");
        checks.same("10 cancelled", 1 << 29, x.event(2, 0, 10));
        checks.same("10 moved", 1 << 29, x.event(2, 0, 11));
        checks.same("24 shown again", 30, x.cancel(0, 0, 29));
        checks.same("24 cancelled again", 29, x.cancel(0, 0, 29));
        checks.same("24 the first one", 28, x.cancel(0, 0, 0));
        checks.same("10 both", 1 << 29 | 1, x.event(0, 0, 10));
        checks.same("25 taken back", 261 * DAY, x.move(0, 0, 29, NONE, 0));
        checks.same("25 the first one", 1439, x.move(0, 0, 0, 0, 1439));
        checks.same("10 moved", 1, x.event(0, 0, 11));
        checks.same("26 none yet", 0, x.reply(0, 0, 29, 3));
        checks.same("26 none yet", 0, x.reply(1, 0, 29, 2));
        checks.same("26 the first one", 0, x.reply(0, 0, 0, 1));
        checks.same("11 answer", 3, x.date(0, 0, 29, 5));
        checks.same("11 answer", 0, x.date(0, 0, 28, 5));
        checks.same("11 answer", 1, x.date(0, 0, 0, 5));
        checks.same("11 answer", 0, x.date(0, 0, 1, 5));
        checks.same("29 accepted", 0, x.push(0));
        checks.same("29 refused is none: it is merged", 0, x.push(1));
        checks.same("29 both answers", 3, x.date(2, 0, 29, 5));
        checks.same("29 both answers", 2, x.date(2, 0, 29, 6));
    }

    private void moved() {
        CalendarSync x = Feeding.of("zone 720 summer 364 364;event 10 20 30 0;");
        int[][] to = {{0, 0, -720}, {0, 1439, 719}, {1094, 0, 1094 * DAY - 780}, {1094, 1439, 1094 * DAY + 659},
            {363, 5, 363 * DAY - 715}, {364, 5, 364 * DAY - 775}, {365, 5, 365 * DAY - 715}};
        for (int[] one : to) {
            checks.same("25 moment", one[2], x.move(0, 0, 0, one[0], one[1]));
            checks.same("11 day", one[0], x.date(0, 0, 0, 0));
            checks.same("11 minute", one[1], x.date(0, 0, 0, 1));
            checks.same("11 moment", one[2], x.date(0, 0, 0, 2));
            checks.same("11 the rule's day", 10, x.date(0, 0, 0, 4));
        }
        // Taken back, the minute may be any one.
        for (int minute : new int[] {0, -1, 1440, LEAST, MOST}) {
            x.move(0, 0, 0, 5, 5);
            checks.same("25 taken back", 10 * DAY + 20 - 720, x.move(0, 0, 0, NONE, minute));
            checks.same("25 not moved", 0, x.event(0, 0, 11));
        }
        checks.same("25 nothing to take back", 10 * DAY + 20 - 720, x.move(0, 0, 0, NONE, 0));
        // Cancelled and moved do not exclude one another, in any order.
        x.move(0, 0, 0, 1, 1);
        checks.same("24 cancelled behind a move", 0, x.cancel(0, 0, 0));
        checks.same("11 is moved still", 1, x.date(0, 0, 0, 0));
        checks.same("11 not shown", 0, x.date(0, 0, 0, 3));
        checks.same("25 moved behind that", 2 * DAY + 2 - 720, x.move(0, 0, 0, 2, 2));
        checks.same("10 is cancelled still", 1, x.event(0, 0, 10));
        x.move(0, 0, 0, NONE, 0);
        checks.same("10 is cancelled still", 1, x.event(0, 0, 10));
    }

    private void cancelledAll() {
        CalendarSync x = Feeding.of("zone 0;event 0 0 5 0 every 1 days times 3;");
        for (int date = 0; date < 3; date++) {
            checks.same("24 shown", 2 - date, x.cancel(0, 0, date));
        }
        checks.same("13 none shown", 0, x.agenda(0, LEAST, MOST));
        checks.element("14 none shown", () -> x.agendaAt(0, LEAST, 0, 0));
        checks.same("15 none shown", 0, x.clashes(0));
        checks.same("17 none shown", 0, x.busyBits(0, 0, 1));
        checks.same("10 the dates are there still", 3, x.event(0, 0, 9));
        checks.same("26 a cancelled date has answers", 0, x.reply(0, 0, 2, 1));
        checks.same("11 a cancelled date has answers", 1, x.date(0, 0, 2, 5));
        checks.same("24 one shown", 1, x.cancel(0, 0, 1));
        checks.same("13 one shown", 1, x.agenda(0, LEAST, MOST));
        checks.same("14 one shown", 1, x.agendaAt(0, LEAST, 0, 1));
    }

    /** All of 0 to 3, to a date and to the whole event. */
    private void answers() {
        for (int whole = 0; whole <= 3; whole++) {
            for (int own = 0; own <= 3; own++) {
                for (int side = 0; side < 2; side++) {
                    CalendarSync x = Feeding.of("zone 0;event 0 0 5 0 every 1 days times 2;");
                    checks.same("26 0 at first", 0, x.reply(side, 0, NONE, whole));
                    checks.same("26 0 at first", 0, x.reply(side, 0, 1, own));
                    checks.same("12 whole", whole, x.answer(side, 0, side));
                    checks.same("11 its own, if it is not 0", own != 0 ? own : whole, x.date(side, 0, 1, 5 + side));
                    checks.same("11 the other date", whole, x.date(side, 0, 0, 5 + side));
                    checks.same("11 the other side", 0, x.date(side, 0, 1, 6 - side));
                    checks.same("26 previous of the date itself", own, x.reply(side, 0, 1, 0));
                    checks.same("26 previous", whole, x.reply(side, 0, NONE, 0));
                }
            }
        }
    }

    // ---- agendas

    private void agendaBounds() {
        CalendarSync x = Feeding.of("zone 720 summer 0 0;zone -720;event 0 0 5 0;event 1094 1439 1440 1;");
        int least = -780;
        int most = 1094 * DAY + 1439 + 720;
        checks.same("13 at from", 2, x.agenda(2, least, MOST));
        checks.same("13 behind from", 1, x.agenda(2, least + 1, MOST));
        checks.same("13 ahead of to", 2, x.agenda(2, LEAST, most + 1));
        checks.same("13 at to", 1, x.agenda(2, LEAST, most));
        checks.same("13 the least one alone", 1, x.agenda(2, least, least + 1));
        checks.same("13 none ahead of it", 0, x.agenda(2, LEAST, least));
        checks.same("13 none from behind the last one on", 0, x.agenda(2, most + 1, MOST));
        checks.same("13 from is to", 0, x.agenda(2, least, least));
        checks.same("13 from behind to", 0, x.agenda(2, least + 1, least));
        checks.same("13 from far behind to", 0, x.agenda(2, MOST, LEAST));
        checks.same("14 the first one", least, x.agendaAt(2, LEAST, 0, 2));
        checks.same("14 the first one", least, x.agendaAt(2, least, 0, 2));
        checks.same("14 behind the first one", most, x.agendaAt(2, least + 1, 0, 2));
        checks.same("14 the last one", most, x.agendaAt(2, most, 0, 2));
        checks.same("14 the last one", 1, x.agendaAt(2, LEAST, 1, 0));
        checks.element("14 behind the last one", () -> x.agendaAt(2, most + 1, 0, 2));
        checks.element("14 index 2 of 2", () -> x.agendaAt(2, LEAST, 2, 2));
    }

    private void clashBounds() {
        for (int apart = 0; apart <= 3; apart++) {
            CalendarSync x = Feeding.of("zone 0;event 0 10 2 0;event 0 " + (10 + apart) + " 1440 0;");
            checks.same("15 a length of 2, apart by " + apart, apart < 2 ? 1 : 0, x.clashes(2));
        }
        // 1440 minutes from a day to the next one touch; a summer that begins brings them 60 nearer.
        checks.same("15 whole days", 0, Feeding.of("zone 0;event 0 0 1440 0 every 1 days times 30;").clashes(2));
        checks.same("15 by the summer", 1, Feeding.of("zone 0 summer 10 364;event 0 0 1381 0 every 1 days times 30;").clashes(2));
        checks.same("15 not by 1380", 0, Feeding.of("zone 0 summer 10 364;event 0 0 1380 0 every 1 days times 30;").clashes(2));
        // All pairs of 240 dates at one moment.
        CalendarSync x = Feeding.of("zone 0;" + "event 1094 1439 1 0 every 1 weeks mo tu we times 30;".repeat(8));
        checks.same("15 no dates but one of each", 8 * 7 / 2, x.clashes(2));
        CalendarSync all = new CalendarSync();
        for (int event = 0; event < 8; event++) {
            all.create(0, event, 0, 0, 1440, 0);
            all.repeat(0, event, 1, 1, 0, 30);
            for (int date = 1; date < 30; date++) {
                all.move(0, event, date, 0, 0);
            }
        }
        checks.same("15 all pairs", 240 * 239 / 2, all.clashes(0));
        checks.same("13 all at one moment", 240, all.agenda(0, 0, 1));
        for (int index = 0; index < 240; index += 29) {
            checks.same("14 by events", index / 30, all.agendaAt(0, 0, index, 0));
            checks.same("14 then by dates", index % 30, all.agendaAt(0, 0, index, 1));
        }
        checks.same("16 they are counted once", Float.floatToIntBits(1440f / 2000f), all.busyBits(0, -500, 1500));
    }

    private void busyBounds() {
        CalendarSync x = Feeding.of("zone 0;event 1 0 1440 0 every 1 days times 30;event 40 0 1 0;");
        share(x, DAY, DAY + 1, 1, 1);
        share(x, DAY - 1, DAY, 0, 1);
        share(x, DAY - 1, DAY + 1, 1, 2);
        share(x, 31 * DAY - 1, 31 * DAY + 1, 1, 2);
        share(x, 31 * DAY, 31 * DAY + 1, 0, 1);
        share(x, DAY, 31 * DAY, 1, 1);
        share(x, 0, 100000, 30 * DAY + 1, 100000);
        share(x, DAY - 100000, DAY, 0, 100000);
        share(x, DAY + 1 - 100000, DAY + 1, 1, 100000);
        share(x, DAY - 99998, DAY + 2, 2, 100000);
        share(x, 40 * DAY, 40 * DAY + 100000, 1, 100000);
        share(x, 40 * DAY + 1, 40 * DAY + 100001, 0, 100000);
        share(x, 40 * DAY, 40 * DAY + 99999, 1, 99999);
        share(x, LEAST, LEAST + 100000, 0, 100000);
        share(x, MOST - 100000, MOST, 0, 100000);
        share(x, MOST - 1, MOST, 0, 1);
        // A whole span, and all but a minute of it.
        CalendarSync all = new CalendarSync();
        for (int event = 0; event < 4; event++) {
            all.create(0, event, event * 30, 0, 1440, 0);
            all.repeat(0, event, 1, 1, 0, 30);
        }
        checks.same("17 all of 100000", 0x3f800000, all.busyBits(0, 0, 100000));
        checks.same("17 all but one", Float.floatToIntBits(99999f / 100000f), all.busyBits(0, -1, 99999));
        checks.same("17 half", Float.floatToIntBits(0.5f), all.busyBits(0, -50000, 50000));
    }

    private void share(CalendarSync x, int from, int to, int minutes, int span) {
        float due = (float) minutes / (float) span;
        for (int p = 0; p < 3; p++) {
            checks.holds("16 from " + from + " to " + to + ": due is " + due + ", got " + x.busy(p, from, to), x.busy(p, from, to) == due);
            checks.same("17 from " + from + " to " + to, Float.floatToIntBits(due), x.busyBits(p, from, to));
        }
    }

    // ---- what is empty

    private void nothingThere() {
        CalendarSync x = new CalendarSync();
        for (int p = 0; p < 3; p++) {
            int place = p;
            checks.same("9 none", 0, x.events(p));
            checks.element("10 none", () -> x.event(place, 0, 0));
            checks.element("11 none", () -> x.date(place, 0, 0, 0));
            checks.element("12 none", () -> x.answer(place, 0, 0));
            checks.same("13 none", 0, x.agenda(p, LEAST, MOST));
            checks.element("14 none", () -> x.agendaAt(place, LEAST, 0, 0));
            checks.same("15 none", 0, x.clashes(p));
            checks.holds("16 none", x.busy(p, 0, 100000) == 0f);
            checks.same("17 none", 0, x.busyBits(p, 0, 100000));
        }
        for (int s = 0; s < 2; s++) {
            int side = s;
            checks.holds("18 none", x.isSame(s));
            checks.element("23 none", () -> x.repeat(side, 0, 0, 1, 1, 1));
            checks.element("24 none", () -> x.cancel(side, 0, 0));
            checks.element("25 none", () -> x.move(side, 0, 0, NONE, 0));
            checks.element("26 none", () -> x.reply(side, 0, NONE, 0));
            checks.element("27 none", () -> x.remove(side, 0));
            checks.same("29 none", 0, x.push(s));
            checks.same("30 none", 0, x.pull(s));
            checks.same("31 none", 0, x.sync(s));
            checks.same("21 no event", 0, x.account(s, 0) + x.account(s, 1) + x.account(s, 2) + x.account(s, 5));
            checks.same("21 pulls", 2, x.account(s, 3));
        }
        checks.same("19 no change", 0, x.clock());
        checks.same("32 acts nevertheless", 5, x.undo());
    }

    /** An event whose rule has no date. */
    private void noDates() {
        CalendarSync x = Feeding.of("zone 0;event 1092 7 9 0 every 1 weeks th fr sa su times 30;");
        checks.same("10 no dates", 0, x.event(2, 0, 9));
        checks.same("10 none cancelled", 0, x.event(2, 0, 10));
        checks.same("9 it is there", 1, x.events(2));
        checks.index("11 no date", () -> x.date(0, 0, 0, 0));
        checks.index("24 no date", () -> x.cancel(0, 0, 0));
        checks.index("25 no date", () -> x.move(0, 0, 0, 1, 1));
        checks.index("25 no date", () -> x.move(0, 0, 0, NONE, 1));
        checks.index("26 no date", () -> x.reply(0, 0, 0, 1));
        checks.same("26 the whole event", 0, x.reply(0, 0, NONE, 1));
        checks.same("26 the whole event", 1, x.reply(0, 0, NONE, 2));
        checks.same("12 the whole event", 2, x.answer(0, 0, 0));
        checks.holds("18 nothing is shown", x.isSame(0));
        checks.same("13 nothing is shown", 0, x.agenda(0, LEAST, MOST));
        checks.same("15 nothing is shown", 0, x.clashes(0));
        checks.same("29 accepted", 0, x.push(0));
        checks.same("12 in the store", 2, x.answer(2, 0, 0));
        x.reply(1, 0, NONE, 3);
        checks.same("29 merged", 0, x.push(1));
        checks.same("21 merged", 1, x.account(1, 1));
        checks.same("12 both", 2, x.answer(1, 0, 0));
        checks.same("12 both", 3, x.answer(2, 0, 1));
        checks.same("23 one date more", 1, x.repeat(1, 0, 2, 1, 12, 30));
        checks.same("11 it has the answer to the whole", 3, x.date(1, 0, 0, 6));
        checks.same("23 none again", 0, x.repeat(1, 0, 2, 1, 8, 30));
        checks.same("27 removed", 0, x.remove(1, 0));
    }

    // ---- what is full

    private void eightEvents() {
        CalendarSync x = new CalendarSync();
        for (int event = 0; event < 8; event++) {
            checks.same("22 how many", event + 1, x.create(0, event, event, 0, 1, 0));
            checks.same("9 which", (2 << event) - 1, x.events(0));
            checks.same("20 changed", (2 << event) - 1, x.side(0, 1));
        }
        for (int event = 0; event < 8; event++) {
            int there = event;
            checks.state("22 it has them all", () -> x.create(0, there, 0, 0, 1, 0));
        }
        checks.argument("22 no ninth one", () -> x.create(0, 8, 0, 0, 1, 0));
        checks.same("29 all accepted", 0, x.push(0));
        checks.same("19 a change each", 8, x.clock());
        checks.same("21 all accepted", 8, x.account(0, 0));
        checks.same("20 all of them would be told", 255, x.side(1, 4));
        checks.same("20 8 changes are not too many", 0, x.side(1, 3));
        checks.same("30 all of them", 8, x.pull(1));
        for (int event = 0; event < 8; event++) {
            checks.same("10 versions", event + 1, x.event(1, event, 8));
            checks.same("27 how many", 7 - event, x.remove(1, event));
        }
        checks.same("29 all accepted", 0, x.push(1));
        checks.same("9 none", 0, x.events(2));
        checks.same("20 too old, and the store has none", 0, x.side(0, 4));
        checks.same("20 too old", 1, x.side(0, 3));
        checks.same("30 none", 0, x.pull(0));
        checks.same("9 none", 0, x.events(0));
        checks.same("21 too old", 1, x.account(0, 4));
        checks.same("22 the first one again", 1, x.create(0, 7, 0, 0, 1, 0));
    }

    private void twelveActs() {
        for (int acts : new int[] {0, 1, 11, 12, 13, 14, 25}) {
            CalendarSync x = Feeding.of("zone 0;event 0 0 1 0;");
            for (int k = 1; k <= acts; k++) {
                x.move(0, 0, 0, k, 0);
            }
            int undone = Math.min(12, acts);
            for (int k = 1; k <= undone; k++) {
                checks.same("32 left of " + acts, undone - k, x.undo());
                checks.same("32 all is as before", acts - k, x.date(0, 0, 0, 0));
            }
            checks.state("32 no more than 12 of " + acts, x::undo);
            checks.same("32 stays", acts - undone, x.date(0, 0, 0, 0));
            x.cancel(0, 0, 0);
            checks.same("32 one act later", 0, x.undo());
            checks.same("32 stays", acts - undone, x.date(0, 0, 0, 0));
            checks.state("32 no more", x::undo);
        }
        // Acts between the undone ones.
        CalendarSync x = Feeding.of("zone 0;event 0 0 1 0;");
        for (int k = 1; k <= 12; k++) {
            x.move(0, 0, 0, k, 0);
        }
        checks.same("32 undone", 11, x.undo());
        x.move(0, 0, 0, 100, 0);
        x.move(0, 0, 0, 101, 0);
        checks.same("32 12 acts again", 11, x.undo());
        checks.same("32 the latest", 100, x.date(0, 0, 0, 0));
        checks.same("32 undone", 10, x.undo());
        checks.same("32 the one ahead of it", 11, x.date(0, 0, 0, 0));
        for (int left = 9; left >= 0; left--) {
            checks.same("32 left", left, x.undo());
            checks.same("32 all is as before", left + 1, x.date(0, 0, 0, 0));
        }
        checks.state("32 no more", x::undo);
    }

    private void whatIsNoAct() {
        CalendarSync x = Feeding.of("zone 0;event 0 0 1 0;");
        x.push(0);
        x.pull(1);
        x.sync(0);
        checks.same("32 acts that change no event", 2, x.undo());
        x.keep(0);
        x.feed(0, 0, 0, 0, 0);
        Checks.outcome(() -> x.load(20));
        checks.same("4 an error", 1, x.errorCode());
        Checks.outcome(() -> x.cancel(0, 0, 1));
        Checks.outcome(() -> x.restore(1));
        checks.same("32 what throws, and what is no act", 1, x.undo());
        checks.same("4 the error stays", 1, x.errorCode());
        checks.same("5 the error stays", 0, x.errorPosition());
        checks.same("34 the slot stays", 0, x.restore(0));
        checks.state("34 nothing can be undone then", x::undo);
        checks.same("21 what was kept has two acts", 1, x.account(1, 3));
        x.cancel(0, 0, 0);
        x.load(0);
        checks.state("3 nothing can be undone then", x::undo);
    }

    // ---- 3 THE STORE AND THE SIDES: tokens

    /** Change k concerns event k - 1: of k changes behind a token the latest 8 are told, if it is not too old. */
    private void eightChanges() {
        for (int changes = 0; changes <= 8; changes++) {
            CalendarSync x = Feeding.of("zone 0;" + "event 1 0 1 0;".repeat(8));
            for (int event = 0; event < changes; event++) {
                x.cancel(0, event, 0);
                x.push(0);
            }
            checks.same("19 clock", changes, x.clock());
            checks.same("20 told of " + changes, (1 << changes) - 1, x.side(1, 4));
            checks.same("20 not too old by " + changes, 0, x.side(1, 3));
            checks.same("30 told of " + changes, changes, x.pull(1));
            checks.same("21 not too old by " + changes, 0, x.account(1, 4));
            checks.same("20 none is left", 0, x.side(1, 4));
        }
        // The oldest of the 8 is told, and none that is older, where the token is later.
        CalendarSync x = Feeding.of("zone 0;" + "event 1 0 1 0;".repeat(8));
        x.cancel(0, 0, 0);
        x.cancel(0, 1, 0);
        x.push(0);
        x.pull(1);
        x.cancel(0, 2, 0);
        x.push(0);
        for (int k = 0; k < 7; k++) {
            checks.same("20 told behind " + k + " zones", 4, x.side(1, 4));
            x.setZone(0, k, NONE, 0);
        }
        checks.same("20 the oldest of 8", 4, x.side(1, 4));
        checks.same("20 not too old", 0, x.side(1, 3));
        checks.same("30 the oldest of 8", 1, x.pull(1));
    }

    /** A token less than the clock minus 8, by nothing and by one. */
    private void tooOld() {
        for (int changes = 7; changes <= 10; changes++) {
            CalendarSync x = Feeding.of("zone 0;event 1 0 1 0;event 2 0 1 0;event 3 0 1 0;");
            x.remove(0, 1);
            x.push(0);
            x.setZone(0, 1, NONE, 0);
            x.pull(1);
            for (int k = 0; k < changes; k++) {
                x.setZone(0, k, NONE, 0);
            }
            boolean isOld = changes > 8;
            checks.same("20 token", 2, x.side(1, 0));
            checks.same("20 too old by " + changes, isOld ? 1 : 0, x.side(1, 3));
            checks.same("20 all events of the store, or none", isOld ? 5 : 0, x.side(1, 4));
            checks.same("30 all events of the store, or none", isOld ? 2 : 0, x.pull(1));
            checks.same("21 pulls", 2, x.account(1, 3));
            checks.same("21 too old", isOld ? 1 : 0, x.account(1, 4));
            checks.same("21 told", 1 + (isOld ? 2 : 0), x.account(1, 5));
            checks.same("20 the token is the clock", changes + 2, x.side(1, 0));
            checks.same("20 not too old any more", 0, x.side(1, 3));
            checks.same("20 nothing to tell", 0, x.side(1, 4));
            checks.same("7 what is taken over is the same", changes - 1, x.zone(1, 0, 0));
            // It is no different if it is a sync that pulls.
            x.undo();
            checks.same("31 told", isOld ? 2 : 0, x.sync(1));
            checks.same("21 too old", isOld ? 1 : 0, x.account(1, 4));
        }
        // Too old by a removed event alone: what the store has not, is not told, but is taken over.
        CalendarSync x = Feeding.of("zone 0;event 1 0 1 0;event 2 0 1 0;");
        x.remove(0, 1);
        x.push(0);
        for (int k = 0; k < 8; k++) {
            x.setZone(0, k, NONE, 0);
        }
        checks.same("30 the one that is there", 1, x.pull(1));
        checks.same("9 the removed one is not there", 1, x.events(1));
        x.undo();
        x.undo();
        checks.same("30 the removed one alone", 1, x.pull(1));
        checks.same("20 nothing to tell", 0, x.side(1, 4));
        checks.same("9 the removed one is not there", 1, x.events(1));
    }

    private void tokensOfBothSides() {
        CalendarSync x = Feeding.of("zone 0;event 1 0 1 0;event 2 0 1 0;");
        x.cancel(0, 0, 0);
        checks.same("31 its own", 1, x.sync(0));
        checks.same("20 side 0", 1, x.side(0, 0));
        checks.same("20 side 1", 0, x.side(1, 0));
        for (int k = 0; k < 8; k++) {
            x.setZone(0, k, NONE, 0);
        }
        checks.same("20 side 0: 8 behind", 0, x.side(0, 3));
        checks.same("20 side 1: 9 behind", 1, x.side(1, 3));
        checks.same("20 side 0", 0, x.side(0, 4));
        checks.same("20 side 1", 3, x.side(1, 4));
        checks.same("29 a push is no pull", 0, x.push(1));
        checks.same("20 side 1", 1, x.side(1, 3));
    }

    private void versions() {
        CalendarSync x = Feeding.of("zone 0;zone 1;event 1 0 1 0;event 2 0 1 0;");
        checks.same("7 0 ahead of all changes", 0, x.zone(2, 1, 3));
        checks.same("10 0 ahead of all changes", 0, x.event(2, 1, 8));
        x.setZone(1, 5, NONE, 0);
        x.cancel(0, 1, 0);
        x.push(0);
        x.setZone(0, 5, NONE, 0);
        checks.same("7 zone 1", 1, x.zone(2, 1, 3));
        checks.same("10 event 1", 2, x.event(2, 1, 8));
        checks.same("7 zone 0", 3, x.zone(2, 0, 3));
        checks.same("10 event 0 keeps its own", 0, x.event(2, 0, 8));
        checks.same("10 the side that pushed", 2, x.event(0, 1, 8));
        checks.same("7 a push takes no zones over", 0, x.zone(0, 0, 3));
        checks.same("10 the other side", 0, x.event(1, 1, 8));
        x.create(1, 7, 0, 0, 1, 0);
        checks.same("10 none yet", NONE, x.event(1, 7, 8));
        checks.same("30 told", 1, x.pull(1));
        checks.same("10 none yet: a pull leaves it", NONE, x.event(1, 7, 8));
        checks.same("10 taken over", 2, x.event(1, 1, 8));
        checks.same("7 taken over", 3, x.zone(1, 0, 3));
    }

    // ---- 3 THE STORE AND THE SIDES: push and pull

    private void pushOfNothing() {
        CalendarSync x = Feeding.of("zone 0;event 1 0 1 0;");
        x.create(0, 3, 0, 0, 1, 0);
        x.remove(0, 3);
        checks.same("20 made and removed is changed", 8, x.side(0, 1));
        checks.same("29 not refused", 0, x.push(0));
        checks.same("29 no change", 0, x.clock());
        checks.same("21 not counted", 0, x.account(0, 0) + x.account(0, 1) + x.account(0, 2));
        checks.same("20 not changed any more", 0, x.side(0, 1));
        checks.same("20 not changed any more", 0, x.side(0, 2));
        checks.same("22 it can be made", 2, x.create(0, 3, 0, 0, 1, 0));
        checks.same("10 without a version", NONE, x.event(0, 3, 8));
        // Changed and changed back is changed.
        x.cancel(0, 0, 0);
        x.cancel(0, 0, 0);
        checks.same("29 accepted", 0, x.push(0));
        checks.same("21 both", 2, x.account(0, 0));
    }

    /** The version of the side's copy is that of the store, or is behind it by one change. */
    private void pushOfVersions() {
        for (int changes = 0; changes <= 1; changes++) {
            for (int act = 0; act < 4; act++) {
                CalendarSync x = Feeding.of("zone 0;event 1 0 1 0;event 1 0 1 0;");
                if (changes == 1) {
                    x.move(0, 0, 0, 7, 7);
                } else {
                    x.move(0, 1, 0, 7, 7);
                }
                x.push(0);
                boolean isAnswer = act == 0;
                if (act == 0) {
                    x.reply(1, 0, 0, 1);
                } else if (act == 1) {
                    x.cancel(1, 0, 0);
                } else if (act == 2) {
                    x.remove(1, 0);
                } else {
                    x.remove(1, 0);
                    x.create(1, 0, 8, 8, 8, 0);
                }
                boolean isAccepted = changes == 0;
                boolean isMerged = !isAccepted && isAnswer;
                String what = "29 act " + act + " on version " + changes;
                checks.same(what, isAccepted || isMerged ? 0 : 1, x.push(1));
                checks.same(what + ": accepted", isAccepted ? 1 : 0, x.account(1, 0));
                checks.same(what + ": merged", isMerged ? 1 : 0, x.account(1, 1));
                checks.same(what + ": refused", isAccepted || isMerged ? 0 : 1, x.account(1, 2));
                checks.same(what + ": clock", isAccepted || isMerged ? 2 : 1, x.clock());
                checks.same(what + ": events", isAccepted && act == 2 ? 2 : 3, x.events(1));
                checks.same(what + ": events", x.events(1), x.events(2));
                checks.same(what + ": nothing is changed", 0, x.side(1, 1));
                if ((x.events(1) & 1) != 0) {
                    checks.same(what + ": version", x.event(2, 0, 8), x.event(1, 0, 8));
                    checks.same(what + ": version", isAccepted || isMerged ? 2 : 1, x.event(1, 0, 8));
                    checks.same(what + ": day", isAccepted ? act == 3 ? 8 : 1 : 7, x.date(1, 0, 0, 0));
                }
            }
        }
    }

    /** The store has the event no longer, or has it not yet. */
    private void pushWithoutTheStores() {
        CalendarSync x = Feeding.of("zone 0;event 1 0 1 0;event 2 0 1 0;event 3 0 1 0;");
        for (int event = 0; event < 3; event++) {
            x.remove(0, event);
        }
        x.push(0);
        x.reply(1, 0, NONE, 1);
        x.cancel(1, 1, 0);
        x.remove(1, 2);
        x.create(1, 2, 9, 9, 9, 0);
        x.create(1, 5, 9, 9, 9, 0);
        checks.same("29 what had come from the store is refused", 3, x.push(1));
        checks.same("21 refused", 3, x.account(1, 2));
        checks.same("21 what had not is accepted", 1, x.account(1, 0));
        checks.same("9 they are no longer there", 32, x.events(1));
        checks.same("9 nor in the store", 32, x.events(2));
        checks.same("19 one change more", 4, x.clock());
        // Both sides make one: the first one that pushes has it accepted, the other one is refused.
        CalendarSync y = new CalendarSync();
        y.create(0, 0, 1, 1, 1, 0);
        y.create(1, 0, 2, 2, 2, 0);
        y.reply(1, 0, NONE, 1);
        checks.same("29 the first", 0, y.push(1));
        checks.same("29 the other", 1, y.push(0));
        checks.same("29 has the first one's", 2, y.event(0, 0, 0));
        checks.same("29 with its answers", 1, y.answer(0, 0, 1));
        // Refused, it can be changed at once: it has the version of the store.
        y.reply(0, 0, NONE, 2);
        checks.same("29 accepted then", 0, y.push(0));
        checks.same("21 accepted then", 1, y.account(0, 0));
        checks.same("21 refused once", 1, y.account(0, 2));
    }

    /** Answers to dates that the store's event has not: its last date, and the one behind it. */
    private void answersLeftOut() {
        CalendarSync x = Feeding.of("zone 0;event 0 0 1 0 every 1 days times 30;");
        x.repeat(0, 0, 1, 1, 0, 29);
        x.push(0);
        x.reply(1, 0, 28, 1);
        x.reply(1, 0, 29, 2);
        x.reply(1, 0, NONE, 3);
        checks.same("29 merged", 0, x.push(1));
        checks.same("29 the last date", 1, x.date(2, 0, 28, 6));
        checks.same("29 the one ahead of it", 3, x.date(2, 0, 27, 6));
        checks.index("29 it has no date 29", () -> x.date(2, 0, 29, 6));
        checks.same("29 the side as well", 29, x.event(1, 0, 9));
        // The store's event has more dates than the side's copy.
        CalendarSync y = Feeding.of("zone 0;event 0 0 1 0;");
        y.repeat(0, 0, 1, 1, 0, 30);
        y.push(0);
        y.reply(1, 0, 0, 2);
        y.push(1);
        checks.same("29 all dates", 30, y.event(1, 0, 9));
        checks.same("29 the first one", 2, y.date(2, 0, 0, 6));
        checks.same("29 no answer", 0, y.date(2, 0, 1, 6));
        checks.same("29 no answer", 0, y.date(2, 0, 29, 6));
        // It has none at all.
        CalendarSync z = Feeding.of("zone 0;event 1092 0 1 0;");
        z.repeat(0, 0, 2, 1, 8, 30);
        z.push(0);
        z.reply(1, 0, 0, 2);
        z.reply(1, 0, NONE, 1);
        checks.same("29 merged", 0, z.push(1));
        checks.same("29 no dates", 0, z.event(1, 0, 9));
        checks.same("29 the whole", 1, z.answer(2, 0, 1));
    }

    /** A pull leaves what the side has changed, by its answers as well as by its content. */
    private void pullOfChanged() {
        CalendarSync x = Feeding.of("zone 0;" + "event 1 0 1 0;".repeat(5));
        for (int event = 0; event < 5; event++) {
            x.move(0, event, 0, 50 + event, 0);
        }
        x.push(0);
        x.reply(1, 0, NONE, 0);
        x.cancel(1, 1, 0);
        x.remove(1, 2);
        x.create(1, 6, 9, 9, 9, 0);
        checks.same("30 told, those that it changed, too", 5, x.pull(1));
        checks.same("30 not what it has answered", 1, x.date(1, 0, 0, 0));
        checks.same("30 not what it has cancelled", 1, x.date(1, 1, 0, 0));
        checks.same("30 not what it has removed, nor made", 0x5b, x.events(1));
        checks.same("30 the others", 53, x.date(1, 3, 0, 0));
        checks.same("30 the others", 54, x.date(1, 4, 0, 0));
        checks.same("20 they are changed still", 0x47, x.side(1, 1));
        checks.same("20 they are changed still", 0x46, x.side(1, 2));
        checks.same("20 the token is the clock", 5, x.side(1, 0));
        checks.same("29 refused behind it", 2, x.push(1));
        checks.same("21 merged", 1, x.account(1, 1));
        checks.same("21 accepted", 1, x.account(1, 0));
        checks.same("29 there again", 0x5f, x.events(1));
        checks.holds("18 same", x.isSame(1));
    }

    private void sameAtTheBounds() {
        for (int what = 0; what < 5; what++) {
            CalendarSync x = Feeding.of("zone 0;event 0 0 5 0 every 1 days times 30;event 1092 0 1 0;");
            String[] names = {"the last date", "the first date", "a minute", "an answer", "an event of no date"};
            if (what == 0) {
                x.cancel(0, 0, 29);
            } else if (what == 1) {
                x.cancel(0, 0, 0);
            } else if (what == 2) {
                x.move(0, 0, 29, 29, 1);
            } else if (what == 3) {
                x.reply(0, 0, 29, 1);
            } else {
                x.repeat(0, 1, 2, 1, 8, 1);
            }
            checks.holds("18 by " + names[what], !x.isSame(0));
            checks.holds("18 the other side", x.isSame(1));
            x.push(0);
            checks.holds("18 pushed: " + names[what], x.isSame(0));
            checks.holds("18 the other side", !x.isSame(1));
            x.pull(1);
            checks.holds("18 pulled: " + names[what], x.isSame(1));
        }
    }

    // ---- slots, and an object's 512 calls

    private void slotsEmptyAndFull() {
        CalendarSync x = Feeding.of("zone 0;event 0 0 5 0;");
        checks.element("34 empty", () -> x.restore(0));
        checks.element("34 empty", () -> x.restore(1));
        x.cancel(0, 0, 0);
        x.sync(0);
        checks.same("33 keep", 1, x.keep(0));
        checks.element("34 the other one is empty still", () -> x.restore(1));
        checks.same("32 what can be undone stays", 1, x.undo());
        x.setZone(0, 5, NONE, 0);
        checks.same("33 keep", 1, x.keep(1));
        checks.same("34 restore", 1, x.restore(0));
        checks.same("34 its events", 1, x.event(2, 0, 10));
        checks.same("34 its zones", 0, x.zone(2, 0, 0));
        checks.same("34 its accounts", 1, x.account(0, 0));
        checks.same("34 its token", 1, x.side(0, 0));
        checks.same("34 restore", 1, x.restore(1));
        checks.same("34 its events", 0, x.event(2, 0, 10));
        checks.same("34 what was changed", 1, x.side(0, 2));
        checks.same("34 its zones", 5, x.zone(2, 0, 0));
        checks.same("34 its accounts", 0, x.account(0, 0));
        Feeding.feedText(x, "zone");
        Checks.outcome(() -> x.load(4));
        checks.same("34 a text with an error leaves the slots", 1, x.restore(0));
        checks.same("3 one without empties both", 0, x.load(0));
        checks.element("34 empty", () -> x.restore(0));
        checks.element("34 empty", () -> x.restore(1));
        checks.same("33 the clock", 0, x.keep(0));
        checks.same("34 the clock", 0, x.restore(0));
    }

    /** The 512th call is as good as the first one. */
    private void manyCalls() {
        CalendarSync x = new CalendarSync();
        for (int call = 1; call < 512; call++) {
            checks.same("28 the clock", call, x.setZone(0, call % 700, call % 365, 364));
        }
        checks.same("32 the last call", 11, x.undo());
        CalendarSync y = new CalendarSync();
        for (int call = 1; call <= 511; call += 7) {
            y.create(0, 0, 0, 0, 1, 0);
            y.repeat(0, 0, 1, 9, 0, 30);
            y.sync(0);
            y.pull(1);
            y.remove(1, 0);
            y.sync(1);
            y.pull(0);
        }
        checks.same("19 the last call", 2 * 73, y.clock());
    }
}
