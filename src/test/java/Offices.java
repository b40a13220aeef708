/** Offices in states from which several tests set out. */
final class Offices {
    static final int MIN = Integer.MIN_VALUE;
    static final int MAX = Integer.MAX_VALUE;

    private Offices() {
    }

    /** A new office after these programs, each of which must succeed. */
    static MailOffice after(String... programs) {
        MailOffice x = new MailOffice();
        for (String program : programs) {
            run(x, program);
        }
        return x;
    }

    static int run(MailOffice x, String program) {
        type(x, program);
        return x.run();
    }

    static void type(MailOffice x, String text) {
        for (int i = 0; i < text.length(); i++) {
            x.append(text.charAt(i));
        }
    }

    /** Accepts so many standard letters of the code and the weight. */
    static void accept(MailOffice x, int count, int code, int weight) {
        for (int i = 0; i < count; i++) {
            x.accept(code, weight, false);
        }
    }

    static String line(MailOffice x, int id) {
        int length = x.formatLetter(id);
        StringBuilder line = new StringBuilder();
        for (int i = 0; i < length; i++) {
            line.append(x.lineChar(i));
        }
        return line.toString();
    }

    static String tray(MailOffice x) {
        StringBuilder tray = new StringBuilder();
        for (int i = 0; i < x.traySize(); i++) {
            tray.append(i == 0 ? "" : " ").append(x.trayAt(i));
        }
        return tray.toString();
    }

    static String ids(MailOffice x) {
        StringBuilder ids = new StringBuilder();
        for (int i = 0; i < x.letterCount(); i++) {
            ids.append(i == 0 ? "" : " ").append(x.idAt(i));
        }
        return ids.toString();
    }

    /** All that can be read of an office but the line, the buffer and the stored positions. */
    static String picture(MailOffice x) {
        StringBuilder all = new StringBuilder();
        all.append(x.day()).append('d').append(x.hour()).append("h tray[").append(tray(x));
        all.append("] delivered ").append(x.deliveredCount()).append(" dead ");
        all.append(x.deadCount()).append(" returns ").append(x.returnCount());
        for (int i = 0; i < x.letterCount(); i++) {
            int id = x.idAt(i);
            all.append("; ").append(id).append(' ').append(x.codeOf(id)).append(' ');
            all.append(x.weightOf(id)).append(x.isPriority(id)).append(x.returnsOf(id));
            if (!x.isInTray(id)) {
                all.append(" in ").append(x.routeOfBag(id)).append('.').append(x.bagOf(id));
            }
        }
        all.append(" prefixes ").append(x.prefixCount());
        for (int route = 0; route < 6; route++) {
            all.append("; ").append(x.cutoff(route)).append(' ').append(x.departure(route));
            all.append(' ').append(x.bagCount(route)).append(' ').append(x.codesOf(route));
        }
        return all.toString();
    }
}
