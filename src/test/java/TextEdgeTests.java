import java.util.Arrays;
import java.util.List;

/**
 * The bounds of section 4, TEXT: each token of the grammar against all others, each number at its bounds
 * and one step beyond them, the end of the text and any other byte wherever they may stand, and which
 * error counts where there are several. In a text that is tried the sign ^ marks the error.
 */
final class TextEdgeTests {
    private static final int SYNTAX = 1;
    private static final int RANGE = 2;
    private static final int TWICE = 3;
    private static final int LIMIT = 4;
    private static final int BYTES = 800;

    /** All kinds of tokens: words of the grammar, others, numbers, signs, and what is no token. */
    private static final String[] TOKENS = {"zone", "summer", "event", "every", "days", "weeks", "months", "times", "not",
        "move", "mo", "tu", "we", "th", "fr", "sa", "su", "x", "zones", "mot", "m", "0", "1", "12345", "00000", ";", "-", "?", "A"};
    private static final String NUMBER = "0 1";
    private static final String START = "zone event";
    private static final String EXCEPTION = "not move ;";

    private final Checks checks = new Checks();

    public static void main(String[] args) {
        TextEdgeTests tests = new TextEdgeTests();
        tests.zoneTokens();
        tests.eventTokens();
        tests.weekdayTokens();
        tests.numbersOfZones();
        tests.numbersOfEvents();
        tests.numbersOfDates();
        tests.digits();
        tests.ends();
        tests.otherBytes();
        tests.blanks();
        tests.twice();
        tests.limits();
        tests.leastPosition();
        tests.leastCode();
        tests.empty();
        tests.full();
        tests.checks.end();
    }

    // ---- how a text is tried

    private void right(int events, String text) {
        CalendarSync x = new CalendarSync();
        Feeding.feedText(x, text);
        checks.answers("4 " + text, String.valueOf(events), () -> x.load(text.length()));
        checks.same("4 errorCode of " + text, 0, x.errorCode());
        checks.same("5 errorPosition of " + text, -1, x.errorPosition());
    }

    private void wrong(int code, String marked) {
        wrong(code, marked.indexOf('^'), marked.replace("^", ""));
    }

    private void wrong(int code, int position, String text) {
        CalendarSync x = new CalendarSync();
        Feeding.feedText(x, text);
        checks.state("3 " + text, () -> x.load(text.length()));
        checks.same("4 errorCode of " + text, code, x.errorCode());
        checks.same("5 errorPosition of " + text, position, x.errorPosition());
    }

    /** Each of these tokens is replaced by all that the grammar does not allow there. */
    private void eachToken(String before, String[][] tokensAndAllowed) {
        for (int at = 0; at < tokensAndAllowed.length; at++) {
            StringBuilder ahead = new StringBuilder(before);
            for (int k = 0; k < at; k++) {
                ahead.append(tokensAndAllowed[k][0]).append(' ');
            }
            StringBuilder behind = new StringBuilder();
            for (int k = at + 1; k < tokensAndAllowed.length; k++) {
                behind.append(' ').append(tokensAndAllowed[k][0]);
            }
            List<String> allowed = Arrays.asList(tokensAndAllowed[at][1].split(" "));
            for (String token : TOKENS) {
                if (!allowed.contains(token)) {
                    wrong(SYNTAX, ahead.length(), ahead + token + behind);
                }
            }
        }
    }

    private static String[] token(String token, String allowed) {
        return new String[] {token, allowed};
    }

    // ---- 1 SYNTAX: a token that the grammar does not allow there

    private void zoneTokens() {
        String[][] zone = {token("zone", START), token("-", "- " + NUMBER), token("60", NUMBER), token("summer", "summer ;"),
            token("90", NUMBER), token("300", NUMBER), token(";", ";"), token("zone", START)};
        eachToken("", zone);
        eachToken("zone 5;event 1 2 3 0;", zone);
        eachToken("zone 5 ", new String[][] {token(";", "; summer")});
        right(0, "zone - 60 summer 90 300 ;");
    }

    private void eventTokens() {
        String[][] once = {token("event", START), token("10", NUMBER), token("20", NUMBER), token("30", NUMBER),
            token("0", NUMBER), token("not", "every " + EXCEPTION), token("0", NUMBER), token("move", EXCEPTION),
            token("0", NUMBER), token("3", NUMBER), token("4", NUMBER), token(";", EXCEPTION), token("event", START)};
        eachToken("zone 5 ; ", once);
        for (String unit : new String[] {"days", "months"}) {
            eachToken("zone 5 ; event 10 20 30 0 ", new String[][] {token("every", "every " + EXCEPTION), token("2", NUMBER),
                token(unit, "days weeks months"), token("times", "times"), token("5", NUMBER), token("move", EXCEPTION),
                token("0", NUMBER), token("3", NUMBER), token("4", NUMBER), token("not", EXCEPTION), token("0", NUMBER),
                token(";", EXCEPTION)});
            right(1, "zone 5 ; event 10 20 30 0 every 2 " + unit + " times 5 move 0 3 4 not 0 ;");
        }
    }

    private void weekdayTokens() {
        String all = "mo tu we th fr sa su";
        eachToken("zone 5 ; event 10 20 30 0 every 2 ", new String[][] {token("weeks", "days weeks months"), token("mo", all),
            token("su", all + " times"), token("times", all + " times"), token("5", NUMBER), token(";", EXCEPTION)});
        right(1, "zone 5 ; event 10 20 30 0 every 2 weeks mo su times 5 ;");
        right(1, "zone 5 ; event 10 20 30 0 every 2 weeks mo tu we th fr sa su times 5 ;");
        // A unit that has weekdays where it must not, and the other way round.
        wrong(SYNTAX, "zone 5;event 1 2 3 0 every 2 days ^mo times 5;");
        wrong(SYNTAX, "zone 5;event 1 2 3 0 every 2 months ^su times 5;");
        wrong(SYNTAX, "zone 5;event 1 2 3 0 every 2 weeks ^times 5;");
    }

    // ---- 2 RANGE

    /** The number stands between the two parts. */
    private void number(String ahead, String behind, int least, int most, int events) {
        right(events, ahead + least + behind);
        right(events, ahead + most + behind);
        if (least > 0) {
            wrong(RANGE, ahead.length(), ahead + (least - 1) + behind);
        }
        wrong(RANGE, ahead.length(), ahead + (most + 1) + behind);
        wrong(RANGE, ahead.length(), ahead + 9999 + behind);
        wrong(SYNTAX, ahead.length(), ahead + "0000" + least + behind);
        wrong(SYNTAX, ahead.length(), ahead + 10000 + behind);
        wrong(SYNTAX, ahead.length(), ahead + "4294967296" + behind);
        wrong(SYNTAX, ahead.length(), ahead + "-" + most + behind);
        wrong(RANGE, ahead.length(), ahead + (most + 1));
    }

    private void numbersOfZones() {
        number("zone - ", ";", 0, 720, 0);
        right(0, "zone 0;");
        right(0, "zone 720;");
        wrong(RANGE, "zone ^721;");
        wrong(RANGE, "zone -^721;");
        wrong(RANGE, "zone ^9999;");
        number("zone 5 summer ", " 364;", 0, 364, 0);
        number("zone 5 summer 0 ", ";", 0, 364, 0);
        number("zone 5 summer 1 ", ";", 1, 364, 0);
        number("zone 5 summer 100 ", ";", 100, 364, 0);
        number("zone 5 summer 364 ", ";", 364, 364, 0);
        CalendarSync x = Feeding.of("zone -720;zone 720 summer 0 364;zone 0 summer 364 364;");
        checks.same("4 least offset", -720, x.zone(2, 0, 0));
        checks.same("4 most offset", 720, x.zone(2, 1, 0));
        checks.same("4 first", 0, x.zone(2, 1, 1));
        checks.same("4 last", 364, x.zone(2, 1, 2));
        checks.same("4 first", 364, x.zone(2, 2, 1));
    }

    private void numbersOfEvents() {
        number("zone 5;event ", " 2 3 0;", 0, 1094, 1);
        number("zone 5;event 1 ", " 3 0;", 0, 1439, 1);
        number("zone 5;event 1 2 ", " 0;", 1, 1440, 1);
        number("zone 5;event 1 2 3 ", ";", 0, 0, 1);
        number("zone 5;zone 6;event 1 2 3 ", ";", 0, 1, 1);
        number("zone 5;zone 6;zone 7;event 1 2 3 ", ";", 0, 2, 1);
        for (String unit : new String[] {"days", "months", "weeks mo", "weeks mo tu we th fr sa su"}) {
            number("zone 5;event 1 2 3 0 every ", " " + unit + " times 7;", 1, 9, 1);
            number("zone 5;event 1 2 3 0 every 7 " + unit + " times ", ";", 1, 30, 1);
        }
        // The zones that count are those told before, not those of the whole text.
        wrong(RANGE, "zone 5;event 1 2 3 ^1;zone 6;");
        right(2, "zone 5;event 1 2 3 0;zone 6;event 1 2 3 1;");
        wrong(RANGE, "zone 5;event 1 2 3 0;zone 6;event 1 2 3 ^2;zone 7;");
        wrong(RANGE, "event 1 2 3 ^0;");
        wrong(RANGE, "event 1 2 3 ^0;zone 5;");
    }

    private void numbersOfDates() {
        String once = "zone 5;event 1 2 3 0 ";
        number(once + "not ", ";", 0, 0, 1);
        number(once + "move ", " 1 2;", 0, 0, 1);
        number(once + "move 0 ", " 2;", 0, 1094, 1);
        number(once + "move 0 1 ", ";", 0, 1439, 1);
        String[] rules = {"every 1 days times 30 ", "every 1 weeks tu times 7 ", "every 1 months times 2 "};
        int[] last = {29, 6, 1};
        for (int k = 0; k < rules.length; k++) {
            number(once + rules[k] + "not ", ";", 0, last[k], 1);
            number(once + rules[k] + "move ", " 1 2;", 0, last[k], 1);
        }
        // The dates that the event has, not its times: none is behind day 1094.
        number("zone 5;event 1090 2 3 0 every 2 days times 30 not ", ";", 0, 2, 1);
        number("zone 5;event 1091 2 3 0 every 2 days times 30 not ", ";", 0, 1, 1);
        number("zone 5;event 1087 2 3 0 every 1 weeks we times 30 move ", " 0 0;", 0, 1, 1);
        number("zone 5;event 1063 2 3 0 every 1 months times 30 move ", " 0 0;", 0, 1, 1);
        // A start that is no date of its rule, and no date at all.
        number("zone 5;event 1092 2 3 0 every 1 weeks we times 9 not ", ";", 0, 0, 1);
        wrong(RANGE, "zone 5;event 1092 2 3 0 every 1 weeks th times 9 not ^0;");
        wrong(RANGE, "zone 5;event 1092 2 3 0 every 1 weeks th times 9 move ^0 1 1;");
        right(1, "zone 5;event 1092 2 3 0 every 1 weeks th times 9;");
    }

    /** At most 4 digits, wherever a number stands, and even if its value is in its range. */
    private void digits() {
        right(1, "zone 0720 summer 0000 0364;event 1094 1439 1440 0000 every 0009 days times 0030 not 0000 move 0000 0001 0002;");
        String[] numbers = {"0720", "0000", "0364", "1094", "1439", "1440", "0000", "0009", "0030", "0000", "0000", "0001", "0002"};
        String format = "zone % summer % %;event % % % % every % days times % not % move % % %;";
        for (int longer = 0; longer < numbers.length; longer++) {
            StringBuilder text = new StringBuilder();
            int position = 0;
            int number = 0;
            for (String part : format.split("(?<=%)|(?=%)")) {
                if (!part.equals("%")) {
                    text.append(part);
                    continue;
                }
                if (number == longer) {
                    position = text.length();
                    text.append('0');
                }
                text.append(numbers[number]);
                number++;
            }
            wrong(SYNTAX, position, text.toString());
        }
    }

    // ---- 1 SYNTAX: the end of the text where more is needed, and any other byte

    /** Each beginning of a text: it is one itself, or more is needed, or its last word is cut. */
    private void ends() {
        String text = "zone -60 summer 2 300;\nzone 60;event 10 20 30 1 every 2 weeks mo tu times 5 not 1 move 2 30 40;\n "
            + "event 1 2 3 0 every 1 days times 1; event 1 2 3 0 every 1 months times 1;";
        for (int end = 0; end <= text.length(); end++) {
            String cut = text.substring(0, end);
            int word = startOfWord(cut);
            boolean isCutWord = word < end && end < text.length() && Character.isLetter(text.charAt(end));
            if (cut.isBlank() || cut.stripTrailing().endsWith(";")) {
                right(cut.split("event", -1).length - 1, cut);
            } else {
                wrong(SYNTAX, isCutWord ? word : end, cut);
            }
        }
        // Blanks at the end belong to the text: its length is the position.
        wrong(SYNTAX, "zone 5 \n \n ^");
        wrong(SYNTAX, "zone 5;event   ^");
    }

    private static int startOfWord(String text) {
        int start = text.length();
        while (start > 0 && Character.isLetter(text.charAt(start - 1))) {
            start--;
        }
        return start;
    }

    private void otherBytes() {
        String allowed = "abcdefghijklmnopqrstuvwxyz0123456789;- \n";
        String[][] parts = {{"", "zone 5;"}, {"zone", "5;"}, {"zone 5", ";"}, {"zone 5;", ""},
            {"zone 5;event 1 2 3 0 not 0", " move 0 1 2;"}, {"zone 5;event 1 2 3 0 every 1 we", "eks mo times 3;"}};
        for (int sign = 0; sign < 256; sign++) {
            if (allowed.indexOf(sign) < 0) {
                for (String[] part : parts) {
                    int position = part[0].endsWith("we") ? part[0].length() - 2 : part[0].length();
                    wrong(SYNTAX, position, part[0] + (char) sign + part[1]);
                }
            }
        }
        // Behind the first length bytes of the buffer there may be any others.
        CalendarSync x = new CalendarSync();
        Feeding.feedText(x, "zone 5;\u0000\u00ff?");
        checks.same("3 the first bytes alone", 0, x.load(7));
        checks.same("3 their zone", 5, x.zone(2, 0, 0));
    }

    private void blanks() {
        String tight = "zone-5summer1 2;event10 20 30 0every2weeks mo tu times5not1move2 30 40;";
        right(1, tight);
        right(1, "\n \n" + tight.replaceAll("(;|-)", " \n$1\n ") + " \n ");
        right(1, tight.replaceAll("(?<=[a-z])(?=[0-9])|(?<=[0-9])(?=[a-z])", "\n"));
        // Without them two words are another one, and two numbers as well.
        wrong(SYNTAX, "^zonesummer 5;");
        wrong(SYNTAX, "zone 5;event 1 2 3 0 every 1 ^weeksmo times 1;");
        wrong(SYNTAX, "zone 5;event 1 2 3 0 every 1 weeks ^motu times 1;");
        wrong(SYNTAX, "zone 5;event 1 2 3 0 every 1 weeks mo ^tutimes 1;");
        wrong(SYNTAX, "zone 5 summer 12^;");
        wrong(SYNTAX, "zone 5;event 1 23 4^;");
        // Nor may they stand inside a token.
        wrong(SYNTAX, "^zo ne 5;");
        wrong(SYNTAX, "zone 5 ^5;");
    }

    // ---- 3 TWICE

    private void twice() {
        String[] days = {"mo", "tu", "we", "th", "fr", "sa", "su"};
        for (String day : days) {
            wrong(TWICE, "zone 5;event 1 2 3 0 every 1 weeks " + day + " ^" + day + " times 1;");
            wrong(TWICE, "zone 5;event 1 2 3 0 every 1 weeks mo tu we th fr sa su ^" + day + " times 1;");
            right(2, "zone 5;event 1 2 3 0 every 1 weeks " + day + " times 1;event 1 2 3 0 every 1 weeks " + day + " times 1;");
        }
        String event = "event 1 2 3 0 every 1 days times 30 ";
        for (int date : new int[] {0, 1, 28, 29}) {
            wrong(TWICE, "zone 5;" + event + "not " + date + " not ^" + date + ";");
            wrong(TWICE, "zone 5;" + event + "not " + date + " move " + date + " 1 1 not 5 not ^" + date);
            wrong(TWICE, "zone 5;" + event + "not " + date + " not ^00" + date + ";");
            right(2, "zone 5;" + event + "not " + date + ";" + event + "not " + date + ";");
        }
        // A DATE of "move" may be told again, and be that of a "not".
        right(1, "zone 5;" + event + "move 29 1 1 move 29 2 2 not 29 move 29 3 3;");
        right(1, "zone 5;" + event + "not 0 not 1 not 2 not 29 not 28;");
    }

    // ---- 4 LIMIT

    private void limits() {
        String zones = "zone 1;zone 2;zone 3;";
        String events = "event 1 2 3 0;".repeat(8);
        right(0, "zone 1;zone 2;");
        right(0, zones);
        right(8, zones + events);
        right(7, "zone 1;" + "event 1 2 3 0;".repeat(7));
        right(8, "zone 1;" + events + "zone 2;zone 3;");
        wrong(LIMIT, zones + "^zone 4;");
        wrong(LIMIT, zones + events + "^zone 4;");
        wrong(LIMIT, zones + events + "^event 1 2 3 0;");
        wrong(LIMIT, "zone 1;" + events + "zone 2;^event 1 2 3 0;");
        // The word is the error, whatever stands behind it; another word is none.
        wrong(LIMIT, zones + "^zone");
        wrong(LIMIT, zones + "^zone ?");
        wrong(LIMIT, zones + "^zone 721;");
        wrong(LIMIT, zones + events + "^event");
        wrong(LIMIT, zones + events + "^event 1095 2 3 0;");
        wrong(SYNTAX, zones + "^zonex 4;");
        wrong(SYNTAX, zones + events + "^events");
    }

    // ---- several errors

    private void leastPosition() {
        wrong(RANGE, "zone ^721;?");
        wrong(SYNTAX, "zone ^?;zone 721;");
        wrong(RANGE, "zone 5 summer 10 ^9 x");
        wrong(RANGE, "zone 5;event ^1095 1440 0 1;");
        wrong(RANGE, "zone 5;event 1094 ^1440 0 1;");
        wrong(RANGE, "zone 5;event 1094 1439 ^0 1;");
        wrong(RANGE, "zone 5;event 1094 1439 1 ^1 every 0 days times 0;");
        wrong(RANGE, "zone 5;event 1 2 3 0 every ^0 weeks mo mo times 0;");
        wrong(TWICE, "zone 5;event 1 2 3 0 every 1 weeks mo ^mo times 0;");
        wrong(RANGE, "zone 5;event 1 2 3 0 every 1 weeks mo times ^0 not 0 not 0;");
        wrong(TWICE, "zone 5;event 1 2 3 0 not 0 not ^0 not 1;");
        wrong(RANGE, "zone 5;event 1 2 3 0 not 0 not ^1 not 0;");
        wrong(SYNTAX, "zone 5;event 1 2 3 0 not 0 ^x not 0;");
        wrong(RANGE, "zone 5;event 1 2 3 0 move ^1 1095 1440;");
        wrong(RANGE, "zone 5;event 1 2 3 0 move 0 ^1095 1440;");
        wrong(LIMIT, "zone 1;zone 2;zone 3;^zone 721;event 1 2 3 3;");
        wrong(RANGE, "zone 1;zone 2;zone ^721;zone 4;");
        wrong(SYNTAX, "zone 5;^;zone 721;");
        wrong(RANGE, "zone 5;event 1 2 3 ^1");
    }

    private void leastCode() {
        // A number of more than 4 digits that is out of its range, too: 1 and 2.
        wrong(SYNTAX, "zone ^00721;");
        wrong(SYNTAX, "zone 5;event 1 2 3 0 every 1 days times ^10000;");
        wrong(SYNTAX, "zone 5;event 1 2 3 0 not ^99999;");
        // One that tells a DATE again: 1 and 3.
        wrong(SYNTAX, "zone 5;event 1 2 3 0 not 0 not ^00000;");
        // The first word of a zone or an event too many, where none may stand: 1 and 4.
        wrong(SYNTAX, "zone 1;zone 2;zone 3 ^zone 4;");
        wrong(SYNTAX, "zone 1;" + "event 1 2 3 0;".repeat(7) + "event 1 2 3 0 ^event 1 2 3 0;");
        wrong(SYNTAX, "zone 1;zone 2;zone 3;event 1 2 3 0 ^zone 4;");
        // A weekday that stands there twice, where none may stand any more: 1 and 3.
        wrong(SYNTAX, "zone 5;event 1 2 3 0 every 1 weeks mo times 1 ^mo;");
        wrong(SYNTAX, "zone 5;event 1 2 3 0 every 1 weeks mo times ^mo;");
    }

    // ---- what is empty, and what is full

    private void empty() {
        for (String text : new String[] {"", " ", "\n", " \n \n "}) {
            right(0, text);
            CalendarSync x = Feeding.of("zone 5 summer 1 2;zone 6;event 1 2 3 0;");
            checks.same("4 no statement", 0, Feeding.loadText(x, text));
            for (int p = 0; p < 3; p++) {
                int place = p;
                checks.same("4 no zone told: offset", 0, x.zone(p, 0, 0));
                checks.same("4 no zone told: no summer", -1, x.zone(p, 0, 1));
                checks.same("4 no zone told: no summer", -1, x.zone(p, 0, 2));
                checks.element("4 no zone told: there is one", () -> x.zone(place, 1, 0));
                checks.same("4 no event", 0, x.events(p));
            }
        }
        wrong(RANGE, "event 0 0 1 ^0;");
        wrong(RANGE, "event 0 0 1 ^1;");
        right(0, "zone 0;");
    }

    private void full() {
        String most = "zone 1;zone 2;zone 3;" + "event 1094 1439 1440 2 every 9 days times 30 move 0 1094 1439;".repeat(8);
        String moves = "zone 1;event 1 2 3 0 every 1 days times 30 not 29" + " move 29 1 1".repeat(40) + " move 29 1094 1439;";
        fills(8, most);
        fills(1, moves);
        CalendarSync x = Feeding.of(" ".repeat(BYTES - most.length()) + most);
        checks.same("4 the last of 800 bytes", 1094, x.date(2, 7, 0, 0));
        checks.same("4 the last of 800 bytes", 1, x.event(2, 7, 11));
        checks.same("4 the latest of many moves", 1439, Feeding.of(moves).date(2, 0, 29, 1));
        // All 30 dates of an event, and all of them told by a "not".
        StringBuilder nots = new StringBuilder("zone 5;event 1 2 3 0 every 1 days times 30");
        for (int date = 29; date >= 0; date--) {
            nots.append(" not ").append(date);
        }
        checks.same("4 all dates are cancelled", (1 << 30) - 1, Feeding.of(nots + ";").event(2, 0, 10));
        wrong(TWICE, nots + " not ^29;");
    }

    private void fills(int events, String text) {
        String blanks = " ".repeat(BYTES - text.length());
        String cut = text.substring(0, text.length() - 1);
        right(events, blanks + text);
        right(events, text + blanks);
        wrong(SYNTAX, BYTES, " " + blanks + cut);
        wrong(SYNTAX, BYTES - 1, blanks + cut + "?");
    }
}
