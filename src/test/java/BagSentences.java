/** Letters go into bags and out of them: promises 5 to 8 and 22 to 29. */
final class BagSentences {
    private static final String SORT_STATE = "Throws `IllegalStateException` if the letter is not"
        + " in the tray, its code has no route, the cut-off hour does not allow it, or neither a"
        + " bag can hold it nor a new bag can be opened";
    private static final String PLACE_STATE = "Throws `IllegalStateException` if the letter is not"
        + " in the tray, the cut-off hour does not allow it, or neither a bag can hold it nor a new"
        + " bag can be opened";
    private static final String IN_TRAY = "Throws `IllegalStateException` if the letter is in the"
        + " tray";

    private BagSentences() {
    }

    static void test(Sentences s) {
        sort(s);
        sortAll(s);
        place(s);
        inTray(s, "Promise 8: pull", MailOffice::pull);
        inTray(s, "Promise 22: routeOfBag", MailOffice::routeOfBag);
        inTray(s, "Promise 23: bagOf", MailOffice::bagOf);
        missorted(s);
        canSort(s);
        lateCount(s);
        tray(s);
    }

    private static void sort(Sentences s) {
        s.under("Promise 5: sort");
        s.test(SORT_STATE, () -> {
            MailOffice x = Offices.after("prefix 1 0;priority 1000 5;priority 1000 5;place 0 3");
            Expect.state("in a bag of another route", () -> x.sort(0));
            x.sort(1);
            Expect.state("in a bag of its route", () -> x.sort(1));
            x.pull(1);
            Expect.equal("in the tray", 0, x.sort(1));
        });
        s.test(SORT_STATE, () -> {
            MailOffice x = Offices.after("priority 1000 5;priority 1100 5");
            Expect.state("empty table", () -> x.sort(0));
            Offices.run(x, "prefix 11 0");
            Expect.state("no route", () -> x.sort(0));
            Expect.equal("a route", 0, x.sort(1));
        });
        s.test(SORT_STATE, () -> {
            MailOffice x = Offices.after("prefix 1 0;standard 1000 5;hours 5;cutoff 0 5");
            Expect.state("hour 5 is not less than 5", () -> x.sort(0));
            x.setCutoff(0, 6);
            Expect.equal("hour 5 is less than 6", 0, x.sort(0));
        });
        s.test(SORT_STATE, () -> {
            MailOffice x = Offices.withFullRoute();
            Offices.run(x, "priority 1000 1;standard 1000 2;pull 8");
            Expect.equal("50 grams fill it", 2, x.sort(8));
            Expect.state("full", () -> x.sort(9));
            Offices.run(x, "pull 8;priority 1000 49;sort 11");
            Expect.state("2 grams are too much", () -> x.sort(10));
            Expect.equal("1 gram is not", 2, x.sort(9));
        });
    }

    private static void sortAll(Sentences s) {
        s.under("Promise 6: sortAll");
        s.test("Goes through the letters in the tray, in the order of the tray, and puts each"
            + " letter into a bag for which sort would not throw an exception at that moment.",
            () -> {
                MailOffice x = Offices.after("prefix 1 0;prefix 2 1;cutoff 1 0");
                Offices.accept(x, 10, 1000, 50);
                x.accept(1000, 49, true);
                x.accept(3000, 1, true);
                x.accept(2000, 1, false);
                x.accept(1000, 1, false);
                Expect.equal("what has room, a route and time", 10, x.sortAll());
                Expect.equal("what stays", "11 8 9 12", Offices.tray(x));
                Expect.equal("the priority letter was first", 0, x.bagOf(10));
                Expect.equal("the last gram", 0, x.bagOf(13));
            });
        s.test("Returns the number of letters that are put into bags.", () -> {
            MailOffice x = Offices.withFullRoute();
            Expect.equal("empty tray", 0, x.sortAll());
            x.accept(1000, 1, true);
            Expect.equal("no room", 0, x.sortAll());
            x.pull(0);
            Expect.equal("room for the lighter or the heavier", 1, x.sortAll());
            Expect.equal("empty office", 0, new MailOffice().sortAll());
            MailOffice all = Offices.after("prefix 1 0");
            Offices.accept(all, 20, 1000, 1);
            Expect.equal("all 20", 20, all.sortAll());
        });
    }

    private static void place(Sentences s) {
        s.under("Promise 7: place");
        s.test("Puts a letter from the tray into a bag of any route, whatever its code is.", () -> {
            MailOffice x = Offices.after("prefix 1 0;priority 1000 5;priority 2000 5");
            for (int route = 0; route < 6; route++) {
                Expect.equal("bag 0 of " + route, 0, x.place(0, route));
                Expect.equal("no route of its own", 0, x.place(1, route));
                Expect.equal("route " + route, route, x.routeOfBag(0));
                x.pull(0);
                x.pull(1);
            }
        });
        s.test(PLACE_STATE, () -> {
            MailOffice x = Offices.after("priority 1000 5;place 0 3");
            Expect.state("in a bag of this route", () -> x.place(0, 3));
            Expect.state("in a bag of another route", () -> x.place(0, 0));
            Expect.equal("it stays there", 3, x.pull(0));
            Expect.equal("in the tray", 0, x.place(0, 0));
        });
        s.test(PLACE_STATE, () -> {
            MailOffice x = Offices.after("standard 1000 5;hours 5;cutoff 0 5;cutoff 1 6");
            Expect.state("hour 5 is not less than 5", () -> x.place(0, 0));
            Expect.equal("hour 5 is less than 6", 0, x.place(0, 1));
        });
        s.test(PLACE_STATE, () -> {
            MailOffice x = Offices.withFullRoute();
            Offices.run(x, "priority 2 1;priority 2 50;priority 2 2");
            Expect.state("full", () -> x.place(9, 0));
            Offices.run(x, "pull 4;place 9 0");
            Expect.state("50 grams where 49 can be held", () -> x.place(10, 0));
            Expect.equal("2 grams", 1, x.place(11, 0));
            Expect.equal("another route", 0, x.place(10, 1));
        });
    }

    private static void inTray(Sentences s, String promise, LetterSentences.IdCall call) {
        s.under(promise);
        s.test(IN_TRAY, () -> {
            MailOffice x = Offices.after("priority 1000 5");
            Expect.state("accepted", () -> call.answer(x, 0));
            x.place(0, 0);
            Expect.equal("in bag 0 of route 0", 0, call.answer(x, 0));
            if (!x.isInTray(0)) {
                x.pull(0);
            }
            Expect.state("pulled", () -> call.answer(x, 0));
            Offices.run(x, "place 0 0;hours 6");
            Expect.state("come back", () -> call.answer(x, 0));
        });
    }

    private static void missorted(Sentences s) {
        s.under("Promise 24: isMissorted");
        s.test("Returns whether a letter is in a bag of another route than the route of its code,"
            + " so that it would come back, or become a dead letter, if the route of its bag"
            + " departed now.", () -> {
                MailOffice x = Offices.after("prefix 1 0;standard 1000 5;standard 2000 5");
                Offices.run(x, "place 0 1;place 1 0");
                Expect.equal("another route", true, x.isMissorted(0));
                Expect.equal("no route", true, x.isMissorted(1));
                Offices.run(x, "pull 0;place 0 0;prefix 2 0");
                Expect.equal("its route", false, x.isMissorted(0));
                Expect.equal("its new route", false, x.isMissorted(1));
                Offices.run(x, "unprefix 1");
                Expect.equal("no more", true, x.isMissorted(0));
                Offices.run(x, "hours 24;place 0 0;hours 24;place 0 0");
                Expect.equal("it would be dead", true, x.isMissorted(0));
            });
        s.test("Returns true if this is so; false if it is in the tray.", () -> {
            MailOffice x = Offices.after("prefix 1 0;standard 1000 5;standard 2000 5");
            Expect.equal("with a route", false, x.isMissorted(0));
            Expect.equal("without a route", false, x.isMissorted(1));
            Offices.run(x, "place 1 0;hours 6");
            Expect.equal("come back", false, x.isMissorted(1));
        });
    }

    private static void canSort(Sentences s) {
        s.under("Promise 25: canSort");
        s.test("Returns whether sort would return normally for a letter now.", () -> {
            MailOffice x = Offices.withFullRoute();
            Offices.run(x, "priority 1000 1;priority 2 1");
            Expect.equal("full", false, x.canSort(9));
            Expect.equal("in a bag", false, x.canSort(0));
            Expect.equal("no route", false, x.canSort(10));
            x.pull(0);
            Expect.equal("room for 1 gram", true, x.canSort(9));
            Expect.equal("room for 50 grams", true, x.canSort(0));
            x.sort(9);
            Expect.equal("49 are not 50", false, x.canSort(0));
            x.pull(9);
            x.setCutoff(0, 0);
            Expect.equal("late", false, x.canSort(0));
            Expect.equal("priority is never late", true, x.canSort(9));
        });
        s.test("Returns true if it would.", () -> {
            MailOffice x = Offices.after("standard 1000 5");
            Expect.equal("no route", false, x.canSort(0));
            x.addPrefix(1, 1, 0);
            Expect.equal("a route", true, x.canSort(0));
            Expect.equal("it was not sorted", true, x.isInTray(0));
            Expect.equal("no bag was opened", 0, x.bagCount(0));
        });
        s.under("Promise 26: sortableCount");
        s.test("Returns the number that sortAll would return now, computed on a copy of the"
            + " office.", () -> {
                Expect.equal("empty office", 0, new MailOffice().sortableCount());
                String three = "standard 1000 50;standard 1000 50;standard 1000 50";
                MailOffice x = Offices.after("prefix 1 0", three, three, three,
                    "standard 1000 50;priority 2000 5");
                String before = Offices.picture(x);
                Expect.equal("nine have room together", 9, x.sortableCount());
                Expect.equal("none was put into a bag", before, Offices.picture(x));
                Expect.equal("nine again", 9, x.sortableCount());
                Expect.equal("no change", 5, x.undoableCount());
                Expect.equal("as sortAll says", 9, x.sortAll());
                Expect.equal("then none", 0, x.sortableCount());
            });
    }

    private static void lateCount(Sentences s) {
        s.under("Promise 27: lateCount");
        s.test("Returns the number of standard letters in the tray whose codes have a route that"
            + " they cannot be put into a bag of now because of its cut-off hour.", () -> {
                Expect.equal("empty office", 0, new MailOffice().lateCount());
                MailOffice x = Offices.after("prefix 1 0;standard 1000 5;standard 1000 5;sort 1");
                Offices.run(x, "priority 1000 5;standard 2000 5;hours 5;cutoff 0 6");
                Expect.equal("hour 5 is less than 6", 0, x.lateCount());
                x.setCutoff(0, 5);
                Expect.equal("hour 5 is not less than 5", 1, x.lateCount());
                x.pull(1);
                Expect.equal("in the tray again", 2, x.lateCount());
                MailOffice full = Offices.withFullRoute();
                full.accept(1000, 50, false);
                Expect.equal("no room, but time", 0, full.lateCount());
                full.setCutoff(0, 0);
                Expect.equal("neither room nor time", 1, full.lateCount());
            });
    }

    private static void tray(Sentences s) {
        s.under("Promise 28: traySize");
        s.test("Returns the number of letters in the tray.", () -> {
            MailOffice x = new MailOffice();
            Expect.equal("empty", 0, x.traySize());
            Offices.accept(x, 20, 1, 1);
            Expect.equal("full", 20, x.traySize());
            x.place(0, 0);
            Expect.equal("without the bags", 19, x.traySize());
        });
        s.under("Promise 29: trayAt");
        s.test("`position`: the position, starting at 0", () -> {
            MailOffice x = Offices.after("standard 1 1;priority 2 2");
            Expect.equal("0", 1, x.trayAt(0));
            Expect.equal("1", 0, x.trayAt(1));
        });
        s.test("Throws `NoSuchElementException` if the tray has no such position", () -> {
            MailOffice x = Offices.after("standard 1 1;priority 2 2;standard 3 3;place 2 0");
            for (int position : new int[] {-1, 2, 3, Offices.MIN, Offices.MAX}) {
                Expect.element("position " + position, () -> x.trayAt(position));
            }
            Offices.run(x, "place 0 0;place 1 0");
            Expect.element("empty tray", () -> x.trayAt(0));
            Expect.element("empty office", () -> new MailOffice().trayAt(0));
            MailOffice full = new MailOffice();
            Offices.accept(full, 20, 1, 1);
            Expect.equal("the last of 20", 19, full.trayAt(19));
            Expect.element("full", () -> full.trayAt(20));
        });
    }
}
