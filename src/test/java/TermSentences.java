/** The terms: letters, routing table, bags, cut-off hours, time and tray. */
final class TermSentences {
    private TermSentences() {
    }

    static void test(Sentences s) {
        s.under("What it is");
        s.test("An object is used for at most 512 calls after it has been made; what later calls"
            + " answer is free.", TermSentences::calls);
        s.under("Terms");
        s.test("Letters are routed by the longest matching prefix of their codes.",
            TermSentences::routed);
        s.test("They wait in the tray until they are put into a bag of a route, and leave with the"
            + " next departure of that route.", TermSentences::waitAndLeave);
        s.test("A letter is in the tray or in exactly one bag.", TermSentences::onePlace);
        letters(s);
        table(s);
        bags(s);
        time(s);
        s.test("The letters in the tray are ordered: priority letters first, then lower ids first.",
            TermSentences::trayOrder);
    }

    private static void letters(Sentences s) {
        s.test("A letter has a code from 0 to 9999, which is always read as four digits with"
            + " leading zeros, a weight from 1 to 50 grams, and is a priority letter or a standard"
            + " letter.", TermSentences::codeAndWeight);
        s.test("A new letter gets the next free id: the first letter has id 0, and each further"
            + " letter has the id of the letter accepted before it plus 1.", TermSentences::ids);
        s.test("Undo and restore also take back the next free id.", TermSentences::idTakenBack);
        s.test("At most 20 letters are in the office at the same time, in the tray and in bags"
            + " together.", TermSentences::atMost20);
    }

    private static void table(Sentences s) {
        s.test("There are the routes 0 to 5.", TermSentences::routes);
        s.test("The table has at most 12 prefixes.", TermSentences::atMost12);
        s.test("A prefix is a sequence of 1 to 4 digits and belongs to one route.",
            TermSentences::prefixes);
        s.test("It matches a code if the code begins with these digits.", TermSentences::matches);
        s.test("The route of a code is the route of the longest prefix that matches it.",
            TermSentences::longest);
        s.test("A code that no prefix matches has no route.", TermSentences::noRoute);
    }

    private static void bags(Sentences s) {
        s.test("Every route has at most 3 bags at the same time, numbered from 0 in the order in"
            + " which they were opened.", TermSentences::threeBags);
        s.test("A bag holds letters of at most 150 grams together.", TermSentences::grams);
        s.test("A letter is put into the bag of a route with the lowest number that can hold it;"
            + " if no bag can, a new bag is opened if the route has fewer than 3.",
            TermSentences::lowestBag);
        s.test("Bags stay open, even if all letters are taken out, until the route departs.",
            TermSentences::openBags);
        s.test("Every route has a cut-off hour from 0 to 24, initially 24.",
            TermSentences::cutoffs);
        s.test("A standard letter can be put into a bag of a route only if the present hour is"
            + " less than the cut-off hour of the route.", () -> cutoffAtEveryHour(false));
        s.test("Priority letters are not affected.", () -> cutoffAtEveryHour(true));
    }

    private static void time(Sentences s) {
        s.test("The time is an hour from 0 to 23 and a day, initially hour 0 of day 0.",
            TermSentences::clock);
        s.test("Every route has a departure hour from 0 to 23, initially 6.",
            TermSentences::departures);
        s.test("When an hour passes, the hour increases by 1; after hour 23, the hour is 0 and the"
            + " day increases by 1.", TermSentences::midnight);
        s.test("Then every route whose departure hour is the new hour departs, in the order of the"
            + " routes.", TermSentences::departAtTheNewHour);
        s.test("When a route departs, all its bags are removed.", TermSentences::bagsRemoved);
        s.test("Each of their letters is delivered if the route of its code is this route at this"
            + " moment.", TermSentences::delivered);
        s.test("Otherwise the letter is a missort and comes back: its number of returns increases"
            + " by 1, and it is in the tray again; but a letter with 3 returns leaves the office as"
            + " a dead letter.", TermSentences::missorts);
    }

    private static void calls() {
        MailOffice x = new MailOffice();
        for (int call = 1; call < 512; call++) {
            x.pass(48);
        }
        Expect.equal("the 512th call", 1022, x.day());
        MailOffice y = new MailOffice();
        y.addPrefix(1, 1, 5);
        for (int id = 0; id < 170; id++) {
            Expect.equal("an id", id, y.accept(1000, 50, false));
            Expect.equal("a bag", 0, y.place(id, 5));
            Expect.equal("a delivery", 1, y.pass(24));
        }
        Expect.equal("the 512th call after deliveries", 170, y.deliveredCount());
    }

    private static void routed() {
        MailOffice x = Offices.after("prefix 1234 4;prefix 123 3;prefix 12 2;prefix 1 1");
        x.accept(1234, 1, true);
        int digits = 1234;
        for (int length = 4; length > 0; length--) {
            x.sort(0);
            Expect.equal("by " + digits, length, x.routeOfBag(0));
            x.pull(0);
            x.removePrefix(digits, length);
            digits /= 10;
        }
        Expect.state("by nothing", () -> x.sort(0));
    }

    private static void waitAndLeave() {
        MailOffice x = Offices.after("prefix 1 0;prefix 2 1;standard 1000 5;standard 2000 5",
            "departure 1 7");
        Expect.equal("none leaves the tray", 0, x.pass(48));
        Expect.equal("both wait", 2, x.traySize());
        x.sortAll();
        Expect.equal("not before a departure", 0, x.pass(5));
        Expect.equal("the next departure", 1, x.pass(1));
        Expect.equal("it leaves", false, x.isPresent(0));
        Expect.equal("that of the other route", true, x.isPresent(1));
        Expect.equal("its own departure", 1, x.pass(1));
    }

    private static void onePlace() {
        MailOffice x = Offices.withTwoBags();
        x.accept(1000, 1, true);
        Expect.equal("the places", "0 0 0 1 tray", places(x, 5));
        Expect.equal("letters in all places", 5, lettersInPlaces(x));
        x.pull(1);
        Expect.equal("the places after a pull", "0 tray 0 1 tray", places(x, 5));
        Expect.equal("letters in all places after a pull", 5, lettersInPlaces(x));
        x.pass(6);
        Expect.equal("letters in all places after a departure", 5, lettersInPlaces(x));
        Expect.equal("all in the tray", 5, x.traySize());
    }

    private static String places(MailOffice x, int letters) {
        StringBuilder places = new StringBuilder();
        for (int id = 0; id < letters; id++) {
            int asked = id;
            boolean inTray = x.isInTray(id);
            if (inTray) {
                Expect.state("no bag of " + id, () -> x.bagOf(asked));
                Expect.state("no route of " + id, () -> x.routeOfBag(asked));
            }
            places.append(id == 0 ? "" : " ").append(inTray ? "tray" : x.bagOf(id) + "");
        }
        return places.toString();
    }

    private static int lettersInPlaces(MailOffice x) {
        int count = x.traySize();
        for (int route = 0; route < 6; route++) {
            for (int bag = 0; bag < x.bagCount(route); bag++) {
                count += x.lettersInBag(route, bag);
            }
        }
        return count;
    }

    private static void codeAndWeight() {
        MailOffice x = new MailOffice();
        x.accept(0, 1, true);
        x.accept(9999, 50, false);
        Expect.equal("least", "P0:0000 1g", Offices.line(x, 0));
        Expect.equal("greatest", "S1:9999 50g", Offices.line(x, 1));
        for (int[] bad : new int[][] {{-1, 1}, {10000, 1}, {0, 0}, {0, 51}}) {
            Expect.argument("code " + bad[0] + ", weight " + bad[1],
                () -> x.accept(bad[0], bad[1], true));
        }
        x.addPrefix(7, 1, 1);
        Expect.element("7 does not begin with 7", () -> x.routeFor(7));
        Expect.element("70 does not begin with 7", () -> x.routeFor(70));
        Expect.element("700 does not begin with 7", () -> x.routeFor(700));
        x.addPrefix(0, 3, 2);
        Expect.equal("7 begins with 000", 2, x.routeFor(7));
        Expect.element("10 does not", () -> x.routeFor(10));
        x.addPrefix(7, 4, 3);
        Expect.equal("7 is 0007", 3, x.routeFor(7));
    }

    private static void ids() {
        MailOffice x = new MailOffice();
        for (int id = 0; id < 20; id++) {
            Expect.equal("one after the other", id, x.accept(1000, 1, id % 2 == 0));
        }
        Expect.state("full", () -> x.accept(1000, 1, true));
        x.addPrefix(1, 1, 0);
        x.sortAll();
        x.pass(6);
        Expect.equal("empty again", 0, x.letterCount());
        Expect.equal("after the deliveries", 20, x.accept(1000, 1, true));
        Expect.argument("refused", () -> x.accept(1000, 0, true));
        Expect.equal("after a refused one", 21, x.accept(1000, 1, true));
    }

    private static void idTakenBack() {
        MailOffice x = new MailOffice();
        x.accept(1, 1, true);
        x.undo();
        Expect.equal("the first again", 0, x.accept(2, 2, true));
        Offices.run(x, "priority 1 1;standard 2 2");
        x.undo();
        Expect.equal("after a run was undone", 1, x.accept(3, 3, true));
        x.save();
        x.accept(4, 4, true);
        x.accept(5, 5, true);
        x.restore();
        Expect.equal("after a restore", 2, x.accept(6, 6, true));
    }

    private static void atMost20() {
        MailOffice x = Offices.after("prefix 1 0");
        Offices.accept(x, 17, 2000, 1);
        Offices.accept(x, 2, 1000, 1);
        Expect.equal("the 20th", 19, x.accept(5000, 1, true));
        Expect.state("the 21st", () -> x.accept(2000, 1, true));
        x.sortAll();
        x.place(19, 5);
        Expect.state("bags count", () -> x.accept(2000, 1, true));
        Expect.equal("two leave", 2, x.pass(6));
        x.accept(2000, 1, true);
        x.accept(2000, 1, false);
        Expect.equal("20 again", 20, x.letterCount());
        Expect.state("one came back", () -> x.accept(2000, 1, true));
        Offices.run(x, "place 19 5;hours 24");
        Expect.state("it came back twice", () -> x.accept(2000, 1, true));
        Offices.run(x, "place 19 5;hours 24");
        Expect.equal("it is dead", 22, x.accept(2000, 1, true));
        Expect.state("full", () -> x.accept(2000, 1, true));
    }

    private static void routes() {
        MailOffice x = new MailOffice();
        Offices.accept(x, 6, 1000, 1);
        for (int route = 0; route < 6; route++) {
            Expect.equal("place in " + route, 0, x.place(route, route));
            Expect.equal("route " + route, route, x.routeOfBag(route));
            x.addPrefix(route, 1, route);
            Expect.equal("code of " + route, route, x.routeFor(route * 1000));
        }
        for (int route : new int[] {-1, 6}) {
            Expect.index("place in " + route, () -> x.place(0, route));
            Expect.index("prefix of " + route, () -> x.addPrefix(9, 1, route));
            Expect.index("bags of " + route, () -> x.bagCount(route));
        }
    }

    private static void atMost12() {
        MailOffice x = Offices.withFullTable();
        Expect.equal("twelve", 12, x.prefixCount());
        Expect.state("the 13th", () -> x.addPrefix(12, 2, 0));
        Expect.state("the 13th of another length", () -> x.addPrefix(1, 1, 5));
        x.removePrefix(0, 2);
        Expect.equal("the twelfth again", 12, x.addPrefix(1, 1, 5));
        Expect.state("full again", () -> x.addPrefix(0, 2, 0));
    }

    private static void prefixes() {
        MailOffice x = new MailOffice();
        for (int length = 1; length <= 4; length++) {
            Expect.equal("zeros", length, x.addPrefix(0, length, length));
        }
        for (int length = 1; length <= 4; length++) {
            int asked = length;
            Expect.state("a second route", () -> x.addPrefix(0, asked, 0));
            Expect.equal("its route", length, x.removePrefix(0, length));
        }
        Expect.argument("no digits", () -> x.addPrefix(0, 0, 0));
        Expect.argument("five digits", () -> x.addPrefix(0, 5, 0));
    }

    private static void matches() {
        for (int[] range : new int[][] {{0, 1, 0, 999}, {9, 1, 9000, 9999}, {12, 2, 1200, 1299},
            {7, 3, 70, 79}, {1234, 4, 1234, 1234}, {0, 4, 0, 0}, {9999, 4, 9999, 9999}}) {
            MailOffice x = new MailOffice();
            x.addPrefix(range[0], range[1], 5);
            Expect.equal("codes of " + range[0], range[3] - range[2] + 1, x.codesOf(5));
            Expect.equal("first of " + range[0], range[1], x.matchLength(range[2]));
            Expect.equal("last of " + range[0], range[1], x.matchLength(range[3]));
            if (range[2] > 0) {
                Expect.equal("before " + range[0], 0, x.matchLength(range[2] - 1));
            }
            if (range[3] < 9999) {
                Expect.equal("after " + range[0], 0, x.matchLength(range[3] + 1));
            }
        }
    }

    private static void longest() {
        MailOffice x = Offices.after("prefix 12 2;prefix 1 1;prefix 1234 4;prefix 123 3");
        int[] codes = {1234, 1235, 1229, 1240, 1199, 1300, 1000, 1999};
        int[] routes = {4, 3, 2, 2, 1, 1, 1, 1};
        for (int i = 0; i < codes.length; i++) {
            Expect.equal("route of " + codes[i], routes[i], x.routeFor(codes[i]));
            Expect.equal("by tree of " + codes[i], routes[i], x.routeForByTree(codes[i]));
            Expect.equal("length for " + codes[i], routes[i], x.matchLength(codes[i]));
        }
    }

    private static void noRoute() {
        MailOffice x = new MailOffice();
        x.accept(999, 1, true);
        for (int digit = 0; digit <= 9; digit++) {
            for (int code : new int[] {0, 7, 999}) {
                Expect.element("code " + code, () -> x.routeFor(code));
                Expect.element("by tree " + code, () -> x.routeForByTree(code));
                Expect.equal("length", 0, x.matchLength(code));
            }
            Expect.state("sort", () -> x.sort(0));
            Expect.equal("codes that have one", 1000 * digit, x.codesOf(0));
            if (digit < 9) {
                x.addPrefix(digit + 1, 1, 0);
            }
        }
        x.addPrefix(0, 1, 0);
        Expect.equal("now it has one", 0, x.sort(0));
    }

    private static void threeBags() {
        MailOffice x = new MailOffice();
        Offices.accept(x, 10, 1000, 50);
        for (int turn = 0; turn < 2; turn++) {
            for (int id = 0; id < 9; id++) {
                Expect.equal("the bag of " + id, id / 3, x.place(id, 4));
                Expect.equal("so many bags", id / 3 + 1, x.bagCount(4));
            }
            Expect.state("a fourth", () -> x.place(9, 4));
            Expect.equal("three", 3, x.bagCount(4));
            Expect.equal("another route begins with 0", 0, x.place(9, 3));
            x.pass(24);
            Expect.equal("none after the departure", 0, x.bagCount(4));
        }
    }

    private static void grams() {
        MailOffice x = new MailOffice();
        Offices.accept(x, 2, 1, 50);
        x.accept(1, 49, true);
        Offices.accept(x, 2, 1, 1);
        Offices.accept(x, 1, 1, 2);
        x.place(0, 1);
        x.place(1, 1);
        x.place(2, 1);
        Expect.equal("151 grams are too much", 1, x.place(5, 1));
        Expect.equal("150 grams are not", 0, x.place(3, 1));
        Expect.equal("a gram more is", 1, x.place(4, 1));
        Expect.equal("150", 150, x.bagWeight(1, 0));
        Expect.equal("the rest", 3, x.bagWeight(1, 1));
    }

    private static void lowestBag() {
        MailOffice x = new MailOffice();
        int[] weights = {50, 50, 20, 50, 50, 50, 31, 30, 50, 50, 20, 19};
        int[] bags = {0, 0, 0, 1, 1, 1, 2, 0, 2, 2, -1, 2};
        for (int id = 0; id < weights.length; id++) {
            int letter = x.accept(1, weights[id], true);
            if (bags[id] < 0) {
                Expect.state("a letter of a gram too much", () -> x.place(letter, 0));
            } else {
                Expect.equal("the bag of " + id, bags[id], x.place(id, 0));
            }
        }
        x.accept(1, 1, true);
        Expect.state("all three are full", () -> x.place(12, 0));
        x.pull(11);
        x.pull(4);
        Expect.equal("the second is lower than the third", 1, x.place(12, 0));
        x.pull(12);
        x.pull(2);
        Expect.equal("the first is the lowest", 0, x.place(12, 0));
    }

    private static void openBags() {
        MailOffice x = Offices.withTwoBags();
        for (int id = 0; id < 3; id++) {
            x.pull(id);
        }
        Expect.equal("the empty bag and the other", 2, x.bagCount(2));
        Expect.equal("no letters", 0, x.lettersInBag(2, 0));
        Expect.equal("the other is still number 1", 1, x.bagOf(3));
        x.pull(3);
        x.pass(5);
        Expect.equal("both are empty and open", 2, x.bagCount(2));
        Expect.equal("used again", 0, x.place(3, 2));
        Expect.equal("no third", 2, x.bagCount(2));
        x.pull(3);
        x.pass(1);
        Expect.equal("until the departure", 0, x.bagCount(2));
    }

    private static void cutoffs() {
        MailOffice x = new MailOffice();
        for (int route = 0; route < 6; route++) {
            int asked = route;
            Expect.equal("at first", 24, x.cutoff(route));
            x.setCutoff(route, 0);
            Expect.equal("least", 0, x.cutoff(route));
            Expect.argument("less", () -> x.setCutoff(asked, -1));
            x.setCutoff(route, 24);
            Expect.equal("greatest", 24, x.cutoff(route));
            Expect.argument("more", () -> x.setCutoff(asked, 25));
        }
    }

    private static void cutoffAtEveryHour(boolean isPriority) {
        for (int hour = 0; hour < 24; hour++) {
            MailOffice x = Offices.after("prefix 1 0");
            x.accept(1000, 5, isPriority);
            x.pass(24 + hour);
            for (int cutoff = 0; cutoff <= 24; cutoff++) {
                x.setCutoff(0, cutoff);
                if (isPriority || hour < cutoff) {
                    Expect.equal("sort", 0, x.sort(0));
                    x.pull(0);
                    Expect.equal("place", 0, x.place(0, 0));
                    x.pull(0);
                } else {
                    Expect.state(hour + " is not less than " + cutoff, () -> x.sort(0));
                    Expect.state(hour + " is not less than " + cutoff, () -> x.place(0, 0));
                }
            }
        }
    }

    private static void clock() {
        MailOffice x = new MailOffice();
        for (int hours = 0; hours < 100; hours++) {
            Expect.equal("hour after " + hours, hours % 24, x.hour());
            Expect.equal("day after " + hours, hours / 24, x.day());
            x.pass(1);
        }
    }

    private static void departures() {
        MailOffice x = new MailOffice();
        for (int route = 0; route < 6; route++) {
            int asked = route;
            Expect.equal("at first", 6, x.departure(route));
            x.setDeparture(route, 0);
            Expect.equal("least", 0, x.departure(route));
            Expect.argument("less", () -> x.setDeparture(asked, -1));
            x.setDeparture(route, 23);
            Expect.equal("greatest", 23, x.departure(route));
            Expect.argument("more", () -> x.setDeparture(asked, 24));
        }
    }

    private static void midnight() {
        MailOffice x = new MailOffice();
        time(x, 23, 0, 23);
        time(x, 1, 1, 0);
        time(x, 1, 1, 1);
        time(x, 48, 3, 1);
        time(x, 46, 4, 23);
        time(x, 2, 5, 1);
        time(x, 23, 6, 0);
    }

    private static void time(MailOffice x, int hours, int day, int hour) {
        x.pass(hours);
        Expect.equal("time", day + " " + hour, x.day() + " " + x.hour());
    }

    private static void departAtTheNewHour() {
        for (int hour = 0; hour < 24; hour++) {
            MailOffice x = Offices.after("prefix 1 0;standard 1000 5;sort");
            x.setDeparture(0, hour);
            int due = hour == 0 ? 24 : hour;
            for (int passed = 1; passed <= 24; passed++) {
                Expect.equal(passed + " for " + hour, passed == due ? 1 : 0, x.pass(1));
            }
        }
        MailOffice all = new MailOffice();
        for (int route = 0; route < 6; route++) {
            all.addPrefix(route, 1, route);
            all.accept(route * 1000, 50, true);
        }
        all.sortAll();
        all.setDeparture(2, 7);
        Expect.equal("every route but one", 5, all.pass(6));
        Expect.equal("the others stay", "2", Offices.ids(all));
    }

    private static void bagsRemoved() {
        MailOffice x = Offices.withFullRoute();
        x.accept(1000, 5, true);
        x.place(9, 1);
        x.setDeparture(1, 7);
        for (int id = 3; id < 6; id++) {
            x.pull(id);
        }
        Expect.equal("three, one of them empty", 3, x.bagCount(0));
        x.pass(6);
        Expect.equal("none", 0, x.bagCount(0));
        Expect.element("not even one", () -> x.bagWeight(0, 0));
        Expect.equal("the weight is gone", 0, x.routeWeight(0));
        Expect.equal("another route keeps its bag", 5, x.bagWeight(1, 0));
    }

    private static void delivered() {
        MailOffice x = Offices.after("prefix 1 0;standard 1000 5;standard 1100 5;sort;hours 5",
            "prefix 10 1;standard 2000 5;place 2 0", "standard 3000 5;place 3 0;prefix 30 0");
        Expect.equal("the second and the fourth", 2, x.pass(1));
        Expect.equal("the others come back", "0 2", Offices.ids(x));
        MailOffice late = Offices.after("prefix 1 0;standard 1000 5;sort;hours 5;unprefix 1");
        Expect.equal("no route at this moment", 0, late.pass(1));
        Expect.equal("it came back", 1, late.returnsOf(0));
    }

    private static void missorts() {
        MailOffice x = Offices.after("prefix 1 0;standard 1000 5");
        for (int returns = 1; returns <= 2; returns++) {
            x.place(0, 2);
            Expect.equal("not delivered", 0, x.pass(48));
            Expect.equal("once more", returns, x.returnsOf(0));
            Expect.equal("in the tray again", "0", Offices.tray(x));
            Expect.equal("not dead", 0, x.deadCount());
        }
        x.place(0, 2);
        x.pass(24);
        Expect.equal("left the office", false, x.isPresent(0));
        Expect.equal("no letters", 0, x.letterCount());
        Expect.equal("dead", 1, x.deadCount());
        Expect.equal("not delivered", 0, x.deliveredCount());
        MailOffice late = Offices.after("prefix 1 0;standard 1000 5;place 0 2;hours 24",
            "place 0 2;hours 24;sort;hours 24");
        Expect.equal("delivered in spite of 2 returns", 1, late.deliveredCount());
    }

    private static void trayOrder() {
        MailOffice x = new MailOffice();
        for (int id = 0; id < 12; id++) {
            x.accept(1, 1, id % 3 == 1);
        }
        Expect.equal("the order", "1 4 7 10 0 2 3 5 6 8 9 11", Offices.tray(x));
        Offices.run(x, "place 4 1;place 2 1;place 1 2;hours 1;pull 4");
        x.accept(1, 1, true);
        Expect.equal("after a pull", "4 7 10 12 0 3 5 6 8 9 11", Offices.tray(x));
        x.pass(5);
        Expect.equal("after returns", "1 4 7 10 12 0 2 3 5 6 8 9 11", Offices.tray(x));
    }
}
