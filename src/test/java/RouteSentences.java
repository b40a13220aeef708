/** Routes and their bags: promises 36 to 40 and 46 to 48, and the routes in other promises. */
final class RouteSentences {
    private static final String NO_ROUTE =
        "Throws `IndexOutOfBoundsException` if there is no such route";
    private static final String NO_BAG =
        "Throws `NoSuchElementException` if the route has no such bag";

    /** A method that is asked with a route. */
    interface RouteCall {
        Object answer(MailOffice x, int route);
    }

    /** A method that is asked with a route and a bag. */
    interface BagCall {
        Object answer(MailOffice x, int route, int bag);
    }

    private RouteSentences() {
    }

    static void test(Sentences s) {
        routesOfChanges(s);
        routesOfQuestions(s);
        noBag(s, "Promise 37: bagWeight", MailOffice::bagWeight);
        noBag(s, "Promise 38: lettersInBag", MailOffice::lettersInBag);
        bags(s);
        weights(s);
        fullestBag(s);
        routeByWeight(s);
    }

    private static void routesOfChanges(Sentences s) {
        noRoute(s, "Promise 3: addPrefix", (x, route) -> x.addPrefix(5, 1, route));
        noRoute(s, "Promise 7: place", (x, route) -> x.place(4, route));
        noRoute(s, "Promise 9: setCutoff", (x, route) -> x.setCutoff(route, 5));
        noRoute(s, "Promise 10: setDeparture", (x, route) -> x.setDeparture(route, 5));
    }

    private static void routesOfQuestions(Sentences s) {
        noRoute(s, "Promise 35: codesOf", MailOffice::codesOf);
        noRoute(s, "Promise 36: bagCount", MailOffice::bagCount);
        noRoute(s, "Promise 37: bagWeight", (x, route) -> x.bagWeight(route, 0));
        noRoute(s, "Promise 38: lettersInBag", (x, route) -> x.lettersInBag(route, 0));
        noRoute(s, "Promise 39: routeWeight", MailOffice::routeWeight);
        noRoute(s, "Promise 40: routeWeightByBags", MailOffice::routeWeightByBags);
        noRoute(s, "Promise 41: cutoff", MailOffice::cutoff);
        noRoute(s, "Promise 42: departure", MailOffice::departure);
        noRoute(s, "Promise 43: hoursToDeparture", MailOffice::hoursToDeparture);
        noRoute(s, "Promise 46: freeWeight", MailOffice::freeWeight);
        noRoute(s, "Promise 47: fullestBag", MailOffice::fullestBag);
    }

    private static void noRoute(Sentences s, String promise, RouteCall call) {
        s.under(promise);
        s.test(NO_ROUTE, () -> {
            for (int route : new int[] {-1, 6, Offices.MIN, Offices.MAX}) {
                Expect.index("route " + route, () -> call.answer(everyRouteHasABag(), route));
            }
            for (int route = 0; route < 6; route++) {
                int asked = route;
                Object answer = Expect.outcome(() -> call.answer(everyRouteHasABag(), asked));
                Expect.equal("route " + route + ": " + answer, false,
                    answer instanceof RuntimeException);
            }
        });
    }

    /** Letter 4 is in the tray, and each of six other letters in a bag of another route. */
    private static MailOffice everyRouteHasABag() {
        MailOffice x = new MailOffice();
        Offices.accept(x, 7, 1000, 50);
        int[] letters = {0, 1, 2, 3, 5, 6};
        for (int route = 0; route < 6; route++) {
            x.place(letters[route], route);
        }
        return x;
    }

    private static void noBag(Sentences s, String promise, BagCall call) {
        s.under(promise);
        s.test(NO_BAG, () -> {
            MailOffice x = Offices.withTwoBags();
            for (int bag : new int[] {-1, 2, 3, Offices.MIN, Offices.MAX}) {
                Expect.element("bag " + bag, () -> call.answer(x, 2, bag));
            }
            for (int route : new int[] {0, 1, 3, 4, 5}) {
                Expect.element("no bags of " + route, () -> call.answer(x, route, 0));
            }
            Offices.run(x, "pull 0;pull 1;pull 2;pull 3");
            Expect.equal("an empty first bag", 0, call.answer(x, 2, 0));
            Expect.equal("an empty second bag", 0, call.answer(x, 2, 1));
            x.pass(6);
            Expect.element("departed", () -> call.answer(x, 2, 0));
            MailOffice full = Offices.withFullRoute();
            Expect.element("a fourth", () -> call.answer(full, 0, 3));
            Expect.equal("a third", true, (int) call.answer(full, 0, 2) > 0);
        });
    }

    private static void bags(Sentences s) {
        s.under("Promise 36: bagCount");
        s.test("Returns the number, 0 to 3.", () -> {
            MailOffice x = new MailOffice();
            Offices.accept(x, 10, 1000, 50);
            for (int id = 0; id < 9; id++) {
                Expect.equal("before " + id, (id + 2) / 3, x.bagCount(5));
                x.place(id, 5);
            }
            Expect.equal("three", 3, x.bagCount(5));
            Expect.state("no more", () -> x.place(9, 5));
            Expect.equal("three", 3, x.bagCount(5));
            x.pass(6);
            Expect.equal("none", 0, x.bagCount(5));
        });
        s.under("Promise 37: bagWeight");
        s.test("Returns the weight of the letters in a bag together.", () -> {
            MailOffice x = Offices.withTwoBags();
            Expect.equal("full", 150, x.bagWeight(2, 0));
            Expect.equal("one letter", 50, x.bagWeight(2, 1));
            x.pull(3);
            Expect.equal("empty", 0, x.bagWeight(2, 1));
        });
        s.under("Promise 38: lettersInBag");
        s.test("Returns the number of letters in a bag.", () -> {
            MailOffice x = Offices.withTwoBags();
            Expect.equal("full", 3, x.lettersInBag(2, 0));
            Expect.equal("one letter", 1, x.lettersInBag(2, 1));
            x.pull(3);
            Expect.equal("empty", 0, x.lettersInBag(2, 1));
            MailOffice light = new MailOffice();
            Offices.accept(light, 20, 1, 1);
            for (int id = 0; id < 20; id++) {
                light.place(id, 0);
            }
            Expect.equal("all letters of the office", 20, light.lettersInBag(0, 0));
        });
    }

    private static void weights(Sentences s) {
        s.under("Promise 39: routeWeight");
        s.test("Returns the weight of all letters in the bags of a route, added letter by letter.",
            () -> weight(MailOffice::routeWeight));
        s.under("Promise 40: routeWeightByBags");
        s.test("Returns the same weight as routeWeight, but adds it bag by bag.",
            () -> weight(MailOffice::routeWeightByBags));
        s.under("Promise 46: freeWeight");
        s.test("Returns how many grams the bags of a route could still hold together, with all bags"
            + " that could be opened.", () -> {
                MailOffice x = Offices.withTwoBags();
                Expect.equal("the second and a third", 250, x.freeWeight(2));
                x.pull(3);
                Expect.equal("an open bag is as good as one to be opened", 300, x.freeWeight(2));
                Expect.equal("three to be opened", 450, x.freeWeight(3));
                x.setCutoff(3, 0);
                Expect.equal("the cut-off hour is no matter", 450, x.freeWeight(3));
            });
        s.test("Returns the sum of 150 grams minus the weight of the letters in it, for each of 3"
            + " bags.", () -> {
                MailOffice x = Offices.withFullRoute();
                Expect.equal("full", 0, x.freeWeight(0));
                Expect.equal("no bags", 450, x.freeWeight(5));
                Offices.run(x, "pull 4;priority 2 49;place 9 0");
                Expect.equal("a gram", 1, x.freeWeight(0));
                x.pass(6);
                Expect.equal("departed", 450, x.freeWeight(0));
            });
    }

    private static void weight(RouteCall call) {
        MailOffice x = Offices.withFullRoute();
        Expect.equal("full", 450, call.answer(x, 0));
        Expect.equal("no bags", 0, call.answer(x, 1));
        Offices.run(x, "pull 0;place 0 5");
        Expect.equal("without a letter", 400, call.answer(x, 0));
        Expect.equal("another route", 50, call.answer(x, 5));
        x.pull(0);
        Expect.equal("an empty bag", 0, call.answer(x, 5));
        x.pass(6);
        Expect.equal("departed", 0, call.answer(x, 0));
    }

    private static void fullestBag(Sentences s) {
        s.under("Promise 47: fullestBag");
        s.test("Returns the bag of a route whose letters have the greatest weight together.",
            () -> {
                MailOffice x = Offices.withFullRoute();
                Offices.run(x, "priority 1 1;pull 3;place 9 0;pull 0;pull 6");
                Expect.equal("the second of 100, 101 and 100 grams", 1, x.fullestBag(0));
                Offices.run(x, "pull 9;pull 1;pull 4");
                Expect.equal("the third of 50, 50 and 100 grams", 2, x.fullestBag(0));
                Offices.run(x, "pull 7;pull 8");
                Expect.equal("the first of 50, 50 and 0 grams", 0, x.fullestBag(0));
            });
        s.test("Of several such bags it is the one with the lowest number.", () -> {
            MailOffice x = Offices.withFullRoute();
            Expect.equal("three full bags", 0, x.fullestBag(0));
            x.pull(1);
            Expect.equal("two full bags", 1, x.fullestBag(0));
            Offices.run(x, "pull 0;pull 2;pull 3;pull 4;pull 5");
            Expect.equal("one full bag", 2, x.fullestBag(0));
            Offices.run(x, "pull 6;pull 7;pull 8");
            Expect.equal("three empty bags", 0, x.fullestBag(0));
        });
        s.test("Throws `NoSuchElementException` if the route has no bags", () -> {
            MailOffice x = Offices.withTwoBags();
            for (int route : new int[] {0, 1, 3, 4, 5}) {
                Expect.element("route " + route, () -> x.fullestBag(route));
            }
            Offices.run(x, "pull 0;pull 1;pull 2;pull 3");
            Expect.equal("empty bags are bags", 0, x.fullestBag(2));
            x.pass(6);
            Expect.element("departed", () -> x.fullestBag(2));
        });
    }

    private static void routeByWeight(Sentences s) {
        s.under("Promise 48: routeByWeight");
        s.test("Returns a route by its rank in the order of routes: greater weight of the letters"
            + " in its bags first, then more bags, then lower numbers.", () -> {
                Expect.equal("new office", "012345", ranks(new MailOffice()));
                MailOffice x = Offices.withTwoBags();
                Expect.equal("greater weight", "201345", ranks(x));
                Offices.run(x, "priority 1 1;priority 1 1;place 4 5;place 5 4");
                Expect.equal("equal weight, lower numbers", "245013", ranks(x));
                Offices.run(x, "priority 1 2;place 6 5");
                Expect.equal("greater by 2 grams", "254013", ranks(x));
            });
        s.test("Returns a route by its rank in the order of routes: greater weight of the letters"
            + " in its bags first, then more bags, then lower numbers.", () -> {
                MailOffice x = Offices.withTwoBags();
                Offices.run(x, "pull 0;pull 1;pull 2;place 0 1;priority 1 1;place 4 5;pull 4");
                Expect.equal("50 in two bags, 50 in one, an empty bag, none", "215034", ranks(x));
                Offices.run(x, "place 4 1");
                Expect.equal("51 in one bag, 50 in two", "125034", ranks(x));
                Offices.run(x, "pull 4;pull 0;pull 3");
                Expect.equal("two empty bags, an empty bag, another", "215034", ranks(x));
            });
        s.test("`rank`: the rank, starting at 0", () -> {
            MailOffice x = Offices.after("priority 1 1;place 0 5");
            Expect.equal("0", 5, x.routeByWeight(0));
            Expect.equal("1", 0, x.routeByWeight(1));
            Expect.equal("5", 4, x.routeByWeight(5));
        });
        s.test("Throws `NoSuchElementException` if there is no such rank", () -> {
            MailOffice x = Offices.withTwoBags();
            for (int rank : new int[] {-1, 6, 7, Offices.MIN, Offices.MAX}) {
                Expect.element("no bags, " + rank, () -> new MailOffice().routeByWeight(rank));
                Expect.element("bags, " + rank, () -> x.routeByWeight(rank));
            }
        });
    }

    private static String ranks(MailOffice x) {
        StringBuilder ranks = new StringBuilder();
        for (int rank = 0; rank < 6; rank++) {
            ranks.append(x.routeByWeight(rank));
        }
        return ranks.toString();
    }
}
