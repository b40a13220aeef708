/** Promises 36 to 40, 46 to 48 and 55: bags, routes and the check of the office. */
final class BagsTest {
    private static final int[] NO_ROUTES = {-1, 6, Offices.MIN, Offices.MAX};

    private BagsTest() {
    }

    public static void main(String[] args) {
        bags();
        wrongBags();
        wrongRoutes();
        fullestBag();
        routeByWeight();
        wrongRanks();
        isConsistent();
        Expect.finish("BagsTest");
    }

    /** Route 2 has bag 0 with 50, 50 and 49 grams, and bag 1 with 50 grams. */
    private static MailOffice twoBags() {
        MailOffice x = new MailOffice();
        Offices.accept(x, 2, 1000, 50);
        x.accept(1000, 49, true);
        x.accept(1000, 50, true);
        for (int id = 0; id < 4; id++) {
            x.place(id, 2);
        }
        return x;
    }

    private static void bags() {
        MailOffice x = twoBags();
        Expect.equal("36", 2, x.bagCount(2));
        Expect.equal("36 other route", 0, x.bagCount(1));
        Expect.equal("37 first", 149, x.bagWeight(2, 0));
        Expect.equal("37 second", 50, x.bagWeight(2, 1));
        Expect.equal("38 first", 3, x.lettersInBag(2, 0));
        Expect.equal("38 second", 1, x.lettersInBag(2, 1));
        Expect.equal("39", 199, x.routeWeight(2));
        Expect.equal("40", 199, x.routeWeightByBags(2));
        Expect.equal("46", 450 - 199, x.freeWeight(2));
        Expect.equal("46 no bags", 450, x.freeWeight(0));
        Expect.equal("39 no bags", 0, x.routeWeight(0));
        Expect.equal("40 no bags", 0, x.routeWeightByBags(0));
        x.pull(3);
        Expect.equal("36 the empty bag stays", 2, x.bagCount(2));
        Expect.equal("37 empty", 0, x.bagWeight(2, 1));
        Expect.equal("38 empty", 0, x.lettersInBag(2, 1));
        x.pull(0);
        Expect.equal("39 without it", 99, x.routeWeight(2));
        Expect.equal("40 without it", 99, x.routeWeightByBags(2));
    }

    private static void wrongBags() {
        MailOffice x = twoBags();
        for (int bag : new int[] {-1, 2, 3, Offices.MIN, Offices.MAX}) {
            Expect.element("37 bag " + bag, () -> x.bagWeight(2, bag));
            Expect.element("38 bag " + bag, () -> x.lettersInBag(2, bag));
        }
        Expect.element("37 no bags", () -> x.bagWeight(0, 0));
        Expect.element("38 no bags", () -> x.lettersInBag(0, 0));
        Expect.element("47 no bags", () -> x.fullestBag(0));
    }

    private static void wrongRoutes() {
        MailOffice x = twoBags();
        for (int route : NO_ROUTES) {
            Expect.index("36 route " + route, () -> x.bagCount(route));
            Expect.index("37 route " + route, () -> x.bagWeight(route, 0));
            Expect.index("37 route before bag", () -> x.bagWeight(route, 5));
            Expect.index("38 route " + route, () -> x.lettersInBag(route, 0));
            Expect.index("38 route before bag", () -> x.lettersInBag(route, 5));
            Expect.index("39 route " + route, () -> x.routeWeight(route));
            Expect.index("40 route " + route, () -> x.routeWeightByBags(route));
            Expect.index("46 route " + route, () -> x.freeWeight(route));
            Expect.index("47 route " + route, () -> x.fullestBag(route));
        }
    }

    private static void fullestBag() {
        MailOffice x = twoBags();
        Expect.equal("47 first", 0, x.fullestBag(2));
        x.pull(0);
        x.pull(1);
        Expect.equal("47 second by a gram", 1, x.fullestBag(2));
        x.pull(2);
        x.pull(3);
        Expect.equal("47 lowest of empty bags", 0, x.fullestBag(2));
        MailOffice same = new MailOffice();
        Offices.accept(same, 6, 1, 50);
        for (int id = 0; id < 6; id++) {
            same.place(id, 1);
        }
        Expect.equal("47 lowest of equal bags", 0, same.fullestBag(1));
        same.pull(0);
        Expect.equal("47 the greater", 1, same.fullestBag(1));
    }

    private static String ranks(MailOffice x) {
        StringBuilder ranks = new StringBuilder();
        for (int rank = 0; rank < 6; rank++) {
            ranks.append(x.routeByWeight(rank));
        }
        return ranks.toString();
    }

    private static void routeByWeight() {
        Expect.equal("48 new office", "012345", ranks(new MailOffice()));
        MailOffice x = new MailOffice();
        Offices.accept(x, 4, 1, 50);
        x.accept(1, 50, true);
        x.accept(1, 49, true);
        for (int id = 0; id < 4; id++) {
            x.place(id, 4);
        }
        x.place(4, 3);
        x.place(5, 1);
        Expect.equal("48 weight", "431025", ranks(x));
        Offices.run(x, "pull 0;pull 1;pull 2;pull 4");
        x.place(4, 5);
        Expect.equal("48 same weight, more bags first", "451302", ranks(x));
        x.pull(4);
        x.place(4, 2);
        Expect.equal("48 weight 0, more bags first", "421350", ranks(x));
    }

    private static void wrongRanks() {
        for (int rank : new int[] {-1, 6, Offices.MIN, Offices.MAX}) {
            Expect.element("48 rank " + rank, () -> new MailOffice().routeByWeight(rank));
        }
    }

    private static void isConsistent() {
        Expect.equal("55 new", true, new MailOffice().isConsistent());
        MailOffice x = Offices.after("prefix 1 0;prefix 12 1;standard 1299 50;standard 5 9");
        Expect.equal("55 in the tray", true, x.isConsistent());
        Offices.run(x, "sort;place 1 0");
        Expect.equal("55 in bags", true, x.isConsistent());
        x.pass(6);
        Expect.equal("55 delivered and come back", true, x.isConsistent());
        x.undo();
        Expect.equal("55 undone", true, x.isConsistent());
    }
}
