/** Hours and what they bring: promises 9 to 13, 41 to 45 and 49 to 52. */
final class TimeSentences {
    private static final String BAD_HOUR =
        "Throws `IllegalArgumentException` if the hour is out of range";
    private static final String NO_DELIVERY =
        "Throws `IllegalStateException` if the letter is in the tray or missorted";

    private TimeSentences() {
    }

    static void test(Sentences s) {
        setCutoff(s);
        setDeparture(s);
        pass(s);
        clock(s);
        hoursToDeparture(s);
        delivery(s, "Promise 44: hoursToDelivery", MailOffice::hoursToDelivery);
        delivery(s, "Promise 45: hoursToDeliveryByHours", MailOffice::hoursToDeliveryByHours);
        hoursToDelivery(s);
        hoursToDeliveryByHours(s);
        counts(s);
    }

    private static void setCutoff(Sentences s) {
        s.under("Promise 9: setCutoff");
        s.test("`hour`: the hour, 0 to 24", () -> {
            MailOffice x = new MailOffice();
            for (int route = 0; route < 6; route++) {
                Expect.equal("least", 24, x.setCutoff(route, 0));
                Expect.equal("greatest", 0, x.setCutoff(route, 24));
                Expect.equal("it is set", 24, x.cutoff(route));
            }
        });
        s.test(BAD_HOUR, () -> {
            MailOffice x = new MailOffice();
            for (int hour : new int[] {-1, 25, Offices.MIN, Offices.MAX}) {
                Expect.argument("hour " + hour, () -> x.setCutoff(5, hour));
            }
            Expect.equal("unchanged", 24, x.cutoff(5));
        });
        s.test("Returns the previous cut-off hour.", () -> {
            MailOffice x = new MailOffice();
            Expect.equal("the first", 24, x.setCutoff(0, 7));
            Expect.equal("the second", 7, x.setCutoff(0, 7));
            Expect.argument("refused", () -> x.setCutoff(0, 25));
            Expect.equal("not the refused", 7, x.setCutoff(0, 0));
        });
    }

    private static void setDeparture(Sentences s) {
        s.under("Promise 10: setDeparture");
        s.test("The route does not depart before the next time its new departure hour is reached.",
            () -> {
                MailOffice x = Offices.after("prefix 1 0;standard 1000 5;sort;hours 5");
                x.setDeparture(0, 5);
                Expect.equal("the present hour", 24, x.hoursToDeparture(0));
                Expect.equal("not now and not at the old hour", 0, x.pass(23));
                x.setDeparture(0, 3);
                Expect.equal("an hour that has gone by", 0, x.pass(22));
                Expect.equal("reached", 1, x.pass(1));
                MailOffice earlier = Offices.after("prefix 1 0;standard 1000 5;sort;departure 0 0");
                Expect.equal("hour 0 is a day away", 0, earlier.pass(23));
                Expect.equal("midnight", 1, earlier.pass(1));
            });
        s.test("`hour`: the hour, 0 to 23", () -> {
            MailOffice x = new MailOffice();
            for (int route = 0; route < 6; route++) {
                Expect.equal("least", 6, x.setDeparture(route, 0));
                Expect.equal("greatest", 0, x.setDeparture(route, 23));
                Expect.equal("it is set", 23, x.departure(route));
            }
        });
        s.test(BAD_HOUR, () -> {
            MailOffice x = new MailOffice();
            for (int hour : new int[] {-1, 24, Offices.MIN, Offices.MAX}) {
                Expect.argument("hour " + hour, () -> x.setDeparture(5, hour));
            }
            Expect.equal("unchanged", 6, x.departure(5));
        });
    }

    private static void pass(Sentences s) {
        s.under("Promise 11: pass");
        s.test("Lets hours pass, one after the other.", () -> {
            MailOffice x = Offices.after("prefix 1 0;prefix 2 1;standard 1000 5;standard 2000 5",
                "departure 0 23;departure 1 1;sort");
            Expect.equal("both on the way", 2, x.pass(24));
            MailOffice twice = Offices.after("standard 1000 5;place 0 0");
            twice.pass(48);
            Expect.equal("two departures, one letter's return", 1, twice.returnsOf(0));
        });
        s.test("`hours`: the number of hours, 1 to 48", () -> {
            MailOffice x = new MailOffice();
            x.pass(1);
            Expect.equal("least", "0 1", x.day() + " " + x.hour());
            x.pass(48);
            Expect.equal("greatest", "2 1", x.day() + " " + x.hour());
        });
        s.test("Returns the number of letters that are delivered.", () -> {
            MailOffice x = Offices.withFullRoute();
            Expect.equal("none yet", 0, x.pass(5));
            x.accept(2000, 1, true);
            x.place(9, 1);
            Expect.equal("without a missort", 9, x.pass(1));
            Expect.equal("none left", 0, x.pass(48));
        });
        s.test("Throws `IllegalArgumentException` if the number of hours is out of range", () -> {
            MailOffice x = new MailOffice();
            for (int hours : new int[] {0, 49, -1, Offices.MIN, Offices.MAX}) {
                Expect.argument("hours " + hours, () -> x.pass(hours));
            }
            Expect.equal("no hour has passed", "0 0", x.day() + " " + x.hour());
        });
    }

    private static void clock(Sentences s) {
        s.under("Promise 12: hour");
        s.test("Returns the hour, 0 to 23.", () -> {
            MailOffice x = new MailOffice();
            Expect.equal("at first", 0, x.hour());
            x.pass(23);
            Expect.equal("the greatest", 23, x.hour());
            x.pass(1);
            Expect.equal("not 24", 0, x.hour());
            x.pass(48);
            Expect.equal("after two days", 0, x.hour());
            x.pass(47);
            Expect.equal("the greatest again", 23, x.hour());
        });
        s.under("Promise 13: day");
        s.test("Returns the day.", () -> {
            MailOffice x = new MailOffice();
            x.pass(23);
            Expect.equal("the last hour", 0, x.day());
            x.pass(1);
            Expect.equal("midnight", 1, x.day());
            x.pass(48);
            Expect.equal("two days at once", 3, x.day());
            x.pass(47);
            Expect.equal("an hour less", 4, x.day());
        });
    }

    private static void hoursToDeparture(Sentences s) {
        s.under("Promise 43: hoursToDeparture");
        s.test("Returns the number of hours, 1 to 24.", () -> {
            MailOffice x = new MailOffice();
            x.pass(12);
            x.setDeparture(0, 13);
            Expect.equal("the next hour", 1, x.hoursToDeparture(0));
            x.setDeparture(0, 12);
            Expect.equal("the present hour", 24, x.hoursToDeparture(0));
            x.setDeparture(0, 11);
            Expect.equal("the hour before", 23, x.hoursToDeparture(0));
            x.setDeparture(0, 0);
            Expect.equal("midnight", 12, x.hoursToDeparture(0));
            x.setDeparture(0, 23);
            Expect.equal("before midnight", 11, x.hoursToDeparture(0));
        });
        s.test("Returns how many hours pass until a route departs next.", () -> {
            MailOffice x = new MailOffice();
            int[] due = {6, 5, 4, 3, 2, 1, 24, 23};
            for (int hours : due) {
                Expect.equal("at hour " + x.hour(), hours, x.hoursToDeparture(5));
                x.pass(1);
            }
        });
    }

    private static void delivery(Sentences s, String promise, LetterSentences.IdCall call) {
        s.under(promise);
        s.test(NO_DELIVERY, () -> {
            MailOffice x = Offices.after("prefix 1 0;standard 1000 5");
            Expect.state("accepted", () -> call.answer(x, 0));
            x.sort(0);
            Expect.equal("in a bag", 6, call.answer(x, 0));
            x.pull(0);
            Expect.state("pulled", () -> call.answer(x, 0));
        });
        s.test(NO_DELIVERY, () -> {
            MailOffice x = Offices.after("prefix 1 0;standard 1000 5;standard 2000 5");
            Offices.run(x, "place 0 1;place 1 1");
            Expect.state("another route", () -> call.answer(x, 0));
            Expect.state("no route", () -> call.answer(x, 1));
            Offices.run(x, "prefix 10 1;prefix 2 1");
            Expect.equal("its route now", 6, call.answer(x, 0));
            Expect.equal("a route now", 6, call.answer(x, 1));
        });
    }

    private static void hoursToDelivery(Sentences s) {
        s.under("Promise 44: hoursToDelivery");
        s.test("Returns the number of hours, 1 to 24.",
            () -> everyDistance(MailOffice::hoursToDelivery));
        s.test("Returns how many hours pass until a letter is delivered if only hours pass,"
            + " computed from the departure hour.", () -> {
                MailOffice x = Offices.after("prefix 1 5;standard 1000 5;sort;departure 5 2");
                for (int left = 2; left > 0; left--) {
                    Expect.equal("left", left, x.hoursToDelivery(0));
                    Expect.equal("delivered", left == 1 ? 1 : 0, x.pass(1));
                }
            });
    }

    private static void hoursToDeliveryByHours(Sentences s) {
        s.under("Promise 45: hoursToDeliveryByHours");
        s.test("Returns the same number as hoursToDelivery, but lets hours pass on a copy of the"
            + " office until the letter is delivered.",
            () -> everyDistance(MailOffice::hoursToDeliveryByHours));
        s.test("Returns the same number as hoursToDelivery, but lets hours pass on a copy of the"
            + " office until the letter is delivered.", () -> {
                MailOffice x = Offices.after("prefix 1 0;standard 1000 5;standard 2000 5;sort",
                    "place 1 1;departure 0 0");
                String before = Offices.picture(x);
                Expect.equal("a day", 24, x.hoursToDeliveryByHours(0));
                Expect.equal("nothing happened", before, Offices.picture(x));
                Expect.equal("no change", 2, x.undoableCount());
            });
    }

    private static void everyDistance(LetterSentences.IdCall call) {
        for (int hour = 0; hour < 24; hour++) {
            MailOffice x = Offices.after("prefix 1 0;hours 24;standard 1000 5;sort");
            x.setDeparture(0, hour);
            Expect.equal("at 0, departure at " + hour, hour == 0 ? 24 : hour, call.answer(x, 0));
            MailOffice y = Offices.after("prefix 1 0;hours 23;standard 1000 5;sort");
            y.setDeparture(0, hour);
            Expect.equal("at 23, departure at " + hour, hour + 1, call.answer(y, 0));
        }
    }

    private static void counts(Sentences s) {
        s.under("Promise 49: missortedCount");
        s.test("Returns the number of letters in bags that are missorted now.", () -> {
            MailOffice x = Offices.withTwoBags();
            Expect.equal("all, without a route", 4, x.missortedCount());
            x.accept(1000, 5, true);
            x.pull(0);
            Expect.equal("none in the tray", 3, x.missortedCount());
            x.addPrefix(1, 1, 2);
            Expect.equal("none of their route", 0, x.missortedCount());
            x.addPrefix(10, 2, 3);
            Expect.equal("now", 3, x.missortedCount());
            x.pass(6);
            Expect.equal("come back", 0, x.missortedCount());
            Expect.equal("new office", 0, new MailOffice().missortedCount());
        });
        s.under("Promise 50: deliveredCount");
        s.test("Returns the number of letters that have been delivered so far.", () -> {
            MailOffice x = Offices.withFullRoute();
            Expect.equal("none", 0, x.deliveredCount());
            x.pass(6);
            Expect.equal("nine", 9, x.deliveredCount());
            Offices.run(x, "priority 1000 5;sort;priority 2 2;place 10 1;hours 24");
            Expect.equal("one more, no missort", 10, x.deliveredCount());
            x.undo();
            Expect.equal("undone", 9, x.deliveredCount());
        });
        s.under("Promise 51: deadCount");
        s.test("Returns the number of dead letters so far.", () -> {
            MailOffice x = Offices.after("priority 5 5;priority 5 5");
            int[] dead = {0, 0, 2};
            for (int due : dead) {
                Offices.run(x, "place 0 2;place 1 2;hours 24");
                Expect.equal("dead", due, x.deadCount());
            }
            Offices.run(x, "priority 5 5;place 2 2;hours 24");
            Expect.equal("no more", 2, x.deadCount());
        });
        s.under("Promise 52: returnCount");
        s.test("Returns how often letters have come back so far, including the third return of each"
            + " dead letter.", () -> {
                MailOffice x = Offices.after("priority 5 5;priority 5 5;prefix 1 0");
                for (int times = 1; times <= 3; times++) {
                    Offices.run(x, "place 0 2;place 1 2;hours 24");
                    Expect.equal("two more", 2 * times, x.returnCount());
                }
                Offices.run(x, "priority 1000 5;sort;hours 24");
                Expect.equal("none by a delivery", 6, x.returnCount());
            });
    }
}
