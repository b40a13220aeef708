/** Offices in states from which several tests set out. */
final class Offices {
    static final int MIN = Integer.MIN_VALUE;
    static final int MAX = Integer.MAX_VALUE;

    private Offices() {
    }

    /** A new office after these programs, each of which must succeed. */
    static MailOffice after(String... programs) {
        MailOffice x = new MailOffice();
        for (String program : programs) {
            run(x, program);
        }
        return x;
    }

    /**
     * At hour 6 of day 2: letter 0 was delivered, letter 1 is dead, 2 is in the tray and 3 in bag 0
     * of route 0, which is the route of both; letter 4 was accepted and undone. The prefix is 1.
     */
    static MailOffice withGoneLetters() {
        MailOffice x = after("prefix 1 0;priority 1000 5;sort;priority 5 5",
            "place 1 2;hours 6;place 1 2;hours 24;place 1 2;hours 24",
            "standard 1000 5;standard 1000 6;sort 3");
        x.accept(1000, 7, true);
        x.undo();
        return x;
    }

    /** Four letters of 50 grams, ids 0 to 3, in the bags 0 and 1 of route 2, which has no code. */
    static MailOffice withTwoBags() {
        MailOffice x = new MailOffice();
        accept(x, 4, 1000, 50);
        for (int id = 0; id < 4; id++) {
            x.place(id, 2);
        }
        return x;
    }

    /** Nine letters of 50 grams, ids 0 to 8, fill the three bags of route 0, the route of 1000. */
    static MailOffice withFullRoute() {
        MailOffice x = after("prefix 1 0");
        accept(x, 9, 1000, 50);
        x.sortAll();
        return x;
    }

    /** Twelve prefixes, 00 to 11, of route 0. */
    static MailOffice withFullTable() {
        MailOffice x = new MailOffice();
        for (int digits = 0; digits < 12; digits++) {
            x.addPrefix(digits, 2, 0);
        }
        return x;
    }

    static int run(MailOffice x, String program) {
        type(x, program);
        return x.run();
    }

    static void type(MailOffice x, String text) {
        for (int i = 0; i < text.length(); i++) {
            x.append(text.charAt(i));
        }
    }

    /** Accepts so many standard letters of the code and the weight. */
    static void accept(MailOffice x, int count, int code, int weight) {
        for (int i = 0; i < count; i++) {
            x.accept(code, weight, false);
        }
    }

    static String line(MailOffice x, int id) {
        int length = x.formatLetter(id);
        StringBuilder line = new StringBuilder();
        for (int i = 0; i < length; i++) {
            line.append(x.lineChar(i));
        }
        return line.toString();
    }

    static String tray(MailOffice x) {
        StringBuilder tray = new StringBuilder();
        for (int i = 0; i < x.traySize(); i++) {
            tray.append(i == 0 ? "" : " ").append(x.trayAt(i));
        }
        return tray.toString();
    }

    static String ids(MailOffice x) {
        StringBuilder ids = new StringBuilder();
        for (int i = 0; i < x.letterCount(); i++) {
            ids.append(i == 0 ? "" : " ").append(x.idAt(i));
        }
        return ids.toString();
    }

    /** All that can be read of an office but the line, the buffer and the stored positions. */
    static String picture(MailOffice x) {
        StringBuilder all = new StringBuilder();
        all.append(x.day()).append('d').append(x.hour()).append("h tray[").append(tray(x));
        all.append("] delivered ").append(x.deliveredCount()).append(" dead ");
        all.append(x.deadCount()).append(" returns ").append(x.returnCount());
        for (int i = 0; i < x.letterCount(); i++) {
            int id = x.idAt(i);
            all.append("; ").append(id).append(' ').append(x.codeOf(id)).append(' ');
            all.append(x.weightOf(id)).append(x.isPriority(id)).append(x.returnsOf(id));
            if (!x.isInTray(id)) {
                all.append(" in ").append(x.routeOfBag(id)).append('.').append(x.bagOf(id));
            }
        }
        all.append(" prefixes ").append(x.prefixCount());
        for (int route = 0; route < 6; route++) {
            all.append("; ").append(x.cutoff(route)).append(' ').append(x.departure(route));
            all.append(' ').append(x.bagCount(route)).append(' ').append(x.codesOf(route));
        }
        return all.toString();
    }

    /**
     * All that calls can tell of an office, at the cost of using it up: the buffer is run with one
     * more character, all changes are undone, the saved copy is restored and a letter accepted.
     */
    static String everything(MailOffice x) {
        StringBuilder all = new StringBuilder();
        for (int index = 0; index < 30; index++) {
            int asked = index;
            all.append(told(() -> x.lineChar(asked)));
        }
        all.append(told(x::errorPosition)).append(told(x::failedCommand)).append(picture(x));
        all.append(told(() -> x.append('1'))).append(told(x::run)).append(told(x::errorPosition));
        all.append(told(x::failedCommand)).append(picture(x));
        for (int count = x.undoableCount(); count >= 0; count--) {
            all.append(told(x::undo));
        }
        all.append(picture(x)).append(told(x::restore)).append(picture(x));
        return all.append(told(() -> x.accept(1, 1, true))).toString();
    }

    private static String told(Expect.Call call) {
        Object outcome = Expect.outcome(call);
        return " " + (outcome instanceof RuntimeException ? outcome.getClass() : outcome) + " ";
    }
}
