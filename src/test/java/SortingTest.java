/** Promises 5 to 8 and 22 to 29: letters go into bags and out of them. */
final class SortingTest {
    private static final int[] ABSENT = {5, -1, Offices.MIN, Offices.MAX};

    private SortingTest() {
    }

    public static void main(String[] args) {
        sort();
        lowestBagThatHolds();
        sortWithoutRoom();
        cutoffHours();
        sortAll();
        sortAllGoesOn();
        place();
        placeWrong();
        pull();
        bagQuestions();
        missorted();
        canSort();
        sortableCount();
        lateCount();
        trayOrder();
        Expect.finish("SortingTest");
    }

    private static void sort() {
        MailOffice x = Offices.after("prefix 1 3;standard 1000 5;standard 2000 5");
        Expect.equal("5 the bag", 0, x.sort(0));
        Expect.equal("5 the route", 3, x.routeOfBag(0));
        Expect.state("5 not in the tray", () -> x.sort(0));
        Expect.state("5 no route", () -> x.sort(1));
        for (int id : ABSENT) {
            Expect.element("5 id " + id, () -> x.sort(id));
        }
        Expect.equal("5 the letter stays", true, x.isInTray(1));
        Expect.equal("5 one bag", 1, x.bagCount(3));
    }

    private static void lowestBagThatHolds() {
        MailOffice x = new MailOffice();
        x.addPrefix(1, 1, 0);
        Offices.accept(x, 2, 1000, 50);
        x.accept(1000, 49, true);
        Offices.accept(x, 1, 1000, 2);
        Offices.accept(x, 1, 1000, 1);
        Expect.equal("5 opens", 0, x.sort(0));
        Expect.equal("5 fits", 0, x.sort(1));
        Expect.equal("5 149 grams", 0, x.sort(2));
        Expect.equal("5 151 grams would be too much", 1, x.sort(3));
        Expect.equal("5 150 grams are not too much", 0, x.sort(4));
        Expect.equal("5 weight", 150, x.bagWeight(0, 0));
        x.pull(0);
        Expect.equal("5 a hole is filled again", 0, x.sort(0));
    }

    private static void sortWithoutRoom() {
        MailOffice x = fullRoute();
        x.accept(1000, 1, true);
        Expect.state("5 no room for a gram", () -> x.sort(9));
        Expect.state("7 no room for a gram", () -> x.place(9, 0));
        Expect.equal("6 no room", 0, x.sortAll());
        Expect.equal("7 another route", 0, x.place(9, 1));
        Expect.equal("5 still three bags", 3, x.bagCount(0));
    }

    /** Nine letters of 50 grams, ids 0 to 8, fill the three bags of route 0. */
    private static MailOffice fullRoute() {
        MailOffice x = new MailOffice();
        x.addPrefix(1, 1, 0);
        Offices.accept(x, 9, 1000, 50);
        Expect.equal("6 fills the route", 9, x.sortAll());
        return x;
    }

    private static void cutoffHours() {
        MailOffice x = Offices.after("prefix 1 0;standard 1000 5;priority 1000 5;hours 5");
        x.setCutoff(0, 5);
        Expect.state("5 hour 5 is not less than 5", () -> x.sort(0));
        Expect.state("7 hour 5 is not less than 5", () -> x.place(0, 0));
        Expect.equal("25 late", false, x.canSort(0));
        Expect.equal("25 priority", true, x.canSort(1));
        Expect.equal("5 priority is not affected", 0, x.sort(1));
        x.pull(1);
        x.setCutoff(0, 0);
        Expect.equal("7 priority at cut-off 0", 0, x.place(1, 0));
        x.setCutoff(0, 6);
        Expect.equal("5 hour 5 is less than 6", 0, x.sort(0));
        x.pull(0);
        x.setCutoff(0, 0);
        Expect.state("5 never before 0", () -> x.sort(0));
        x.pass(18);
        x.setCutoff(0, 24);
        Expect.equal("5 hour 23 is less than 24", 0, x.sort(0));
    }

    private static void sortAll() {
        MailOffice x = Offices.after("prefix 1 0;prefix 2 1;standard 1000 5;standard 3000 5",
            "priority 2000 5;standard 2000 5;cutoff 1 0;sort");
        Expect.equal("6 placed", "1 3", Offices.tray(x));
        Expect.equal("6 nothing left to do", 0, x.sortAll());
        x.setCutoff(1, 24);
        Expect.equal("6 the late one now", 1, x.sortAll());
        Expect.equal("6 its route", 1, x.routeOfBag(3));
        Expect.equal("6 empty office", 0, new MailOffice().sortAll());
    }

    private static void sortAllGoesOn() {
        MailOffice x = new MailOffice();
        x.addPrefix(1, 1, 0);
        Offices.accept(x, 9, 1000, 50);
        x.accept(1000, 30, false);
        x.accept(1000, 20, true);
        x.accept(1000, 50, true);
        Expect.equal("26 before", 10, x.sortableCount());
        Expect.equal("6 priority first, then lower ids", 10, x.sortAll());
        Expect.equal("6 the last ids that need 50 grams have no room", "7 8", Offices.tray(x));
        Expect.equal("6 first bag", "0.0", x.routeOfBag(10) + "." + x.bagOf(10));
        Expect.equal("6 second priority letter", 0, x.bagOf(11));
        MailOffice skip = new MailOffice();
        skip.addPrefix(1, 1, 0);
        Offices.accept(skip, 8, 1000, 50);
        skip.accept(1000, 30, false);
        skip.accept(1000, 50, false);
        skip.accept(1000, 20, false);
        Expect.equal("6 a heavy letter is passed over", 10, skip.sortAll());
        Expect.equal("6 the heavy one", "9", Offices.tray(skip));
    }

    private static void place() {
        MailOffice x = Offices.after("prefix 1 0;standard 1000 50;standard 7777 50");
        Expect.equal("7 against its code", 0, x.place(0, 5));
        Expect.equal("7 without a route of its own", 0, x.place(1, 5));
        Expect.equal("7 route", 5, x.routeOfBag(1));
        Expect.state("7 not in the tray", () -> x.place(0, 0));
        Offices.accept(x, 2, 0, 50);
        Expect.equal("7 third", 0, x.place(2, 5));
        Expect.equal("7 new bag", 1, x.place(3, 5));
    }

    private static void placeWrong() {
        MailOffice x = Offices.after("standard 1000 50;place 0 5;standard 1 1");
        for (int id : ABSENT) {
            Expect.element("7 id " + id, () -> x.place(id, 0));
            Expect.element("7 id before route", () -> x.place(id, 6));
        }
        for (int route : new int[] {-1, 6, Offices.MIN, Offices.MAX}) {
            Expect.index("7 route " + route, () -> x.place(1, route));
            Expect.index("7 route before tray", () -> x.place(0, route));
        }
        Expect.equal("7 unchanged", "1", Offices.tray(x));
    }

    private static void pull() {
        MailOffice x = Offices.after("standard 1000 50;standard 1 1;place 0 5");
        Expect.equal("8 route", 5, x.pull(0));
        Expect.equal("8 back in order", "0 1", Offices.tray(x));
        Expect.equal("8 the empty bag stays", 1, x.bagCount(5));
        Expect.equal("8 no return", 0, x.returnsOf(0));
        Expect.state("8 in the tray", () -> x.pull(0));
        for (int id : ABSENT) {
            Expect.element("8 id " + id, () -> x.pull(id));
        }
    }

    private static void bagQuestions() {
        MailOffice x = new MailOffice();
        Offices.accept(x, 5, 1, 50);
        for (int id = 0; id < 4; id++) {
            x.place(id, 2);
        }
        Expect.equal("22", 2, x.routeOfBag(0));
        Expect.equal("23 first", 0, x.bagOf(2));
        Expect.equal("23 second", 1, x.bagOf(3));
        Expect.state("22 in the tray", () -> x.routeOfBag(4));
        Expect.state("23 in the tray", () -> x.bagOf(4));
        for (int id : ABSENT) {
            Expect.element("22 id " + id, () -> x.routeOfBag(id));
            Expect.element("23 id " + id, () -> x.bagOf(id));
        }
    }

    private static void missorted() {
        MailOffice x = Offices.after("prefix 1 0;standard 1000 5;standard 1001 5;standard 2 5");
        Expect.equal("24 in the tray", false, x.isMissorted(0));
        Offices.run(x, "sort;place 2 4");
        Expect.equal("24 its route", false, x.isMissorted(0));
        Expect.equal("24 without a route", true, x.isMissorted(2));
        Offices.run(x, "pull 1;place 1 3");
        Expect.equal("24 another route", true, x.isMissorted(1));
        Expect.equal("49 two", 2, x.missortedCount());
        x.addPrefix(100, 3, 3);
        Expect.equal("24 the table changed", false, x.isMissorted(1));
        Expect.equal("24 the table changed", true, x.isMissorted(0));
        for (int id : ABSENT) {
            Expect.element("24 id " + id, () -> x.isMissorted(id));
        }
    }

    private static void canSort() {
        MailOffice x = fullRoute();
        Offices.run(x, "priority 1000 1;priority 2 1;pull 0");
        Expect.equal("25 in a bag", false, x.canSort(1));
        Expect.equal("25 pulled", true, x.canSort(0));
        Expect.equal("25 room", true, x.canSort(9));
        Expect.equal("25 no route", false, x.canSort(10));
        x.sort(0);
        Expect.equal("25 no room", false, x.canSort(9));
        for (int id : new int[] {11, -1, Offices.MIN, Offices.MAX}) {
            Expect.element("25 id " + id, () -> x.canSort(id));
        }
    }

    private static void sortableCount() {
        MailOffice x = Offices.after("prefix 1 0;standard 1000 5;standard 2000 5;priority 1 1");
        String before = Offices.picture(x);
        Expect.equal("26 one", 1, x.sortableCount());
        Expect.equal("26 nothing happened", before, Offices.picture(x));
        Expect.equal("26 no change", 1, x.undoableCount());
        x.sortAll();
        Expect.equal("26 none left", 0, x.sortableCount());
    }

    private static void lateCount() {
        MailOffice x = Offices.after("prefix 1 0;standard 1000 5;priority 1000 5;standard 2 5",
            "standard 1000 5;sort 3;hours 5");
        Expect.equal("27 none", 0, x.lateCount());
        x.setCutoff(0, 5);
        Expect.equal("27 standard, in the tray, with a route", 1, x.lateCount());
        x.pull(3);
        Expect.equal("27 back in the tray", 2, x.lateCount());
        x.setCutoff(0, 6);
        Expect.equal("27 early enough", 0, x.lateCount());
        MailOffice full = fullRoute();
        full.accept(1000, 50, false);
        Expect.equal("27 no room is not late", 0, full.lateCount());
        full.setCutoff(0, 0);
        Expect.equal("27 late and no room", 1, full.lateCount());
    }

    private static void trayOrder() {
        MailOffice x = Offices.after("standard 1 1;priority 2 2;standard 3 3;priority 4 4");
        Expect.equal("28", 4, x.traySize());
        Expect.equal("29", "1 3 0 2", Offices.tray(x));
        x.place(3, 0);
        Expect.equal("28 one less", 3, x.traySize());
        Expect.equal("29 without it", "1 0 2", Offices.tray(x));
        for (int position : new int[] {-1, 3, Offices.MIN, Offices.MAX}) {
            Expect.element("29 position " + position, () -> x.trayAt(position));
        }
        x.pass(6);
        Expect.equal("29 come back", "1 3 0 2", Offices.tray(x));
        Expect.element("29 empty", () -> new MailOffice().trayAt(0));
    }
}
