/** Promises 9 to 13, 41 to 45, 49 to 52 and 54: hours, departures and what becomes of letters. */
final class TimeTest {
    private static final int[] NO_ROUTES = {-1, 6, Offices.MIN, Offices.MAX};

    private TimeTest() {
    }

    public static void main(String[] args) {
        setCutoff();
        setDeparture();
        hoursAndDays();
        departures();
        missortsComeBack();
        deadLetters();
        routeAtTheMoment();
        hoursToDeparture();
        newDepartureHour();
        hoursToDelivery();
        deliveryByHoursChangesNothing();
        deliveredShare();
        Expect.finish("TimeTest");
    }

    private static void setCutoff() {
        MailOffice x = new MailOffice();
        Expect.equal("9 before", 24, x.setCutoff(2, 0));
        Expect.equal("9 least", 0, x.setCutoff(2, 24));
        Expect.equal("9 greatest", 24, x.setCutoff(2, 7));
        Expect.equal("41", 7, x.cutoff(2));
        Expect.equal("41 others", 24, x.cutoff(3));
        for (int hour : new int[] {-1, 25, Offices.MIN, Offices.MAX}) {
            Expect.argument("9 hour " + hour, () -> x.setCutoff(0, hour));
        }
        for (int route : NO_ROUTES) {
            Expect.index("9 route " + route, () -> x.setCutoff(route, 1));
            Expect.index("9 route first", () -> x.setCutoff(route, 25));
            Expect.index("41 route " + route, () -> x.cutoff(route));
        }
        Expect.equal("9 unchanged", 24, x.cutoff(0));
    }

    private static void setDeparture() {
        MailOffice x = new MailOffice();
        Expect.equal("10 before", 6, x.setDeparture(5, 0));
        Expect.equal("10 least", 0, x.setDeparture(5, 23));
        Expect.equal("10 greatest", 23, x.setDeparture(5, 9));
        Expect.equal("42", 9, x.departure(5));
        Expect.equal("42 others", 6, x.departure(4));
        for (int hour : new int[] {-1, 24, Offices.MIN, Offices.MAX}) {
            Expect.argument("10 hour " + hour, () -> x.setDeparture(0, hour));
        }
        for (int route : NO_ROUTES) {
            Expect.index("10 route " + route, () -> x.setDeparture(route, 1));
            Expect.index("10 route first", () -> x.setDeparture(route, 24));
            Expect.index("42 route " + route, () -> x.departure(route));
        }
        Expect.equal("10 unchanged", 6, x.departure(0));
    }

    private static void hoursAndDays() {
        MailOffice x = new MailOffice();
        Expect.equal("11 nothing delivered", 0, x.pass(23));
        Expect.equal("12", 23, x.hour());
        Expect.equal("13", 0, x.day());
        x.pass(1);
        Expect.equal("12 midnight", 0, x.hour());
        Expect.equal("13 next day", 1, x.day());
        x.pass(48);
        Expect.equal("13 two days", 3, x.day());
        Expect.equal("12 same hour", 0, x.hour());
        for (int hours : new int[] {0, 49, -1, Offices.MIN, Offices.MAX}) {
            Expect.argument("11 hours " + hours, () -> x.pass(hours));
        }
        Expect.equal("12 unchanged", 0, x.hour());
        Expect.equal("13 unchanged", 3, x.day());
    }

    private static void departures() {
        MailOffice x = Offices.after("prefix 1 0;prefix 2 1;standard 1000 5;standard 2000 5",
            "sort;departure 1 0;hours 5");
        Expect.equal("11 not yet", 2, x.letterCount());
        Expect.equal("11 one of them at 6", 1, x.pass(1));
        Expect.equal("11 bags removed", 0, x.bagCount(0));
        Expect.equal("11 other route's bags stay", 1, x.bagCount(1));
        Expect.equal("11 nothing before midnight", 0, x.pass(17));
        Expect.equal("11 at hour 0 of the next day", 1, x.pass(1));
        Expect.equal("50", 2, x.deliveredCount());
        MailOffice empty = Offices.after("standard 1 1;place 0 3;pull 0;hours 6");
        Expect.equal("11 empty bags go too", 0, empty.bagCount(3));
        Expect.equal("11 the tray stays", 0, empty.returnsOf(0));
        MailOffice twice = Offices.after("prefix 1 0;standard 1000 1;sort");
        Expect.equal("11 many hours", 1, twice.pass(48));
        Expect.equal("bags are numbered from 0 again", 1, twice.accept(1000, 1, false));
        Expect.equal("bags are numbered from 0 again", 0, twice.sort(1));
    }

    private static void missortsComeBack() {
        MailOffice x = Offices.after("prefix 1 0;standard 1000 5;standard 1001 5;place 0 2;sort");
        Expect.equal("49", 1, x.missortedCount());
        Expect.equal("11 counts only the delivered", 1, x.pass(6));
        Expect.equal("20 a return", 1, x.returnsOf(0));
        Expect.equal("21 in the tray", true, x.isInTray(0));
        Expect.equal("52", 1, x.returnCount());
        Expect.equal("49 none in bags", 0, x.missortedCount());
        Expect.equal("51", 0, x.deadCount());
    }

    private static void deadLetters() {
        MailOffice x = Offices.after("priority 5 5;place 0 2;hours 6;place 0 2;hours 24");
        Expect.equal("20 two", 2, x.returnsOf(0));
        Expect.equal("51 still there", 0, x.deadCount());
        x.place(0, 2);
        Expect.equal("11 a dead letter is not delivered", 0, x.pass(24));
        Expect.equal("15 gone", false, x.isPresent(0));
        Expect.equal("51 dead", 1, x.deadCount());
        Expect.equal("52 with the third", 3, x.returnCount());
        Expect.equal("50 not delivered", 0, x.deliveredCount());
        Expect.equal("54 none of one", 0.0f, x.deliveredShare());
        Expect.equal("55", true, x.isConsistent());
    }

    private static void routeAtTheMoment() {
        MailOffice x = Offices.after("prefix 1 0;standard 1000 5;sort;unprefix 1;prefix 1 1");
        Expect.equal("11 the route has changed", 0, x.pass(6));
        Expect.equal("20 so it came back", 1, x.returnsOf(0));
        MailOffice y = Offices.after("standard 1000 5;place 0 4;prefix 10 4");
        Expect.equal("11 the route was added", 1, y.pass(6));
    }

    private static void hoursToDeparture() {
        MailOffice x = new MailOffice();
        Expect.equal("43 at first", 6, x.hoursToDeparture(0));
        x.setDeparture(1, 0);
        Expect.equal("43 the present hour is a day away", 24, x.hoursToDeparture(1));
        x.setDeparture(2, 1);
        Expect.equal("43 next hour", 1, x.hoursToDeparture(2));
        x.setDeparture(3, 23);
        x.pass(6);
        Expect.equal("43 just departed", 24, x.hoursToDeparture(0));
        Expect.equal("43 over midnight", 18, x.hoursToDeparture(1));
        Expect.equal("43 tomorrow", 19, x.hoursToDeparture(2));
        Expect.equal("43 today", 17, x.hoursToDeparture(3));
        for (int route : NO_ROUTES) {
            Expect.index("43 route " + route, () -> x.hoursToDeparture(route));
        }
    }

    private static void newDepartureHour() {
        MailOffice x = Offices.after("prefix 1 0;standard 1000 5;sort;hours 5;departure 0 5");
        Expect.equal("10 not before the next time", 24, x.hoursToDeparture(0));
        Expect.equal("10 not at the old hour", 0, x.pass(23));
        Expect.equal("10 at the new hour", 1, x.pass(1));
    }

    private static void hoursToDelivery() {
        MailOffice x = Offices.after("prefix 1 0;standard 1000 5;standard 2 5;standard 1002 5",
            "place 1 3;sort 0;departure 0 9;hours 2");
        Expect.equal("44", 7, x.hoursToDelivery(0));
        Expect.equal("45", 7, x.hoursToDeliveryByHours(0));
        Expect.state("44 missorted", () -> x.hoursToDelivery(1));
        Expect.state("45 missorted", () -> x.hoursToDeliveryByHours(1));
        Expect.state("44 in the tray", () -> x.hoursToDelivery(2));
        Expect.state("45 in the tray", () -> x.hoursToDeliveryByHours(2));
        for (int id : new int[] {3, -1, Offices.MIN, Offices.MAX}) {
            Expect.element("44 id " + id, () -> x.hoursToDelivery(id));
            Expect.element("45 id " + id, () -> x.hoursToDeliveryByHours(id));
        }
        for (int hour = 0; hour < 24; hour++) {
            x.setDeparture(0, hour);
            int due = hour > 2 ? hour - 2 : hour + 22;
            Expect.equal("44 departure at " + hour, due, x.hoursToDelivery(0));
            Expect.equal("45 departure at " + hour, due, x.hoursToDeliveryByHours(0));
        }
    }

    private static void deliveryByHoursChangesNothing() {
        MailOffice x = Offices.after("prefix 1 0;standard 1000 5;standard 2 5;place 1 0;sort");
        String before = Offices.picture(x);
        x.hoursToDeliveryByHours(0);
        Expect.equal("45 works on a copy", before, Offices.picture(x));
        Expect.equal("45 is no change", 1, x.undoableCount());
    }

    private static void deliveredShare() {
        MailOffice x = new MailOffice();
        Expect.arithmetic("54 none accepted", x::deliveredShare);
        Offices.run(x, "prefix 1 0;standard 1000 5;standard 2 5;standard 3 5");
        Expect.equal("54 none delivered", 0.0f, x.deliveredShare());
        x.sortAll();
        x.pass(6);
        Expect.equal("54 one of three", 1.0f / 3, x.deliveredShare());
        MailOffice back = new MailOffice();
        back.accept(1, 1, true);
        back.undo();
        Expect.arithmetic("54 the letter was undone", back::deliveredShare);
    }
}
