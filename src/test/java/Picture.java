/** All that can be asked of an object, in one text; some 300 calls for the objects of these tests. */
final class Picture {
    private Picture() {
    }

    static String of(CalendarSync x) {
        StringBuilder all = new StringBuilder();
        all.append("error ").append(x.errorCode()).append(' ').append(x.errorPosition());
        all.append(" clock ").append(x.clock());
        for (int s = 0; s < 2; s++) {
            all.append(" side ").append(x.isSame(s));
            for (int k = 0; k < 5; k++) {
                all.append(' ').append(x.side(s, k));
            }
            for (int k = 0; k < 6; k++) {
                all.append(' ').append(x.account(s, k));
            }
        }
        for (int p = 0; p < 3; p++) {
            place(all, x, p);
        }
        return all.toString();
    }

    private static void place(StringBuilder all, CalendarSync x, int p) {
        all.append(" place ").append(x.agenda(p, Integer.MIN_VALUE, Integer.MAX_VALUE)).append(' ').append(x.clashes(p));
        for (int z = 0; z < 3; z++) {
            for (int k = 0; k < 4; k++) {
                int zone = z;
                int what = k;
                all.append(' ').append(Checks.outcome(() -> x.zone(p, zone, what)));
            }
        }
        for (int e = 0; e < 8; e++) {
            all.append(" event ");
            if ((x.events(p) & 1 << e) != 0) {
                event(all, x, p, e);
            }
        }
    }

    private static void event(StringBuilder all, CalendarSync x, int p, int e) {
        for (int k = 0; k < 12; k++) {
            all.append(' ').append(x.event(p, e, k));
        }
        all.append(' ').append(x.answer(p, e, 0)).append(' ').append(x.answer(p, e, 1));
        for (int d = 0; d < x.event(p, e, 9); d++) {
            for (int k = 0; k < 7; k++) {
                all.append(' ').append(x.date(p, e, d, k));
            }
        }
    }
}
