/** Promises 3, 4 and 30 to 35: the routing table. */
final class RoutingTest {
    private static final int[] BAD_CODES = {-1, 10000, Offices.MIN, Offices.MAX};

    private RoutingTest() {
    }

    public static void main(String[] args) {
        addPrefix();
        addPrefixWrong();
        fullTable();
        removePrefix();
        hasPrefix();
        longestMatch();
        leadingZeros();
        treeOfAChangedTable();
        wrongCodes();
        codesOf();
        codesOfCountsAllCodes();
        Expect.finish("RoutingTest");
    }

    private static void addPrefix() {
        MailOffice x = new MailOffice();
        Expect.equal("3 first", 1, x.addPrefix(7, 3, 0));
        Expect.equal("3 same digits, other length", 2, x.addPrefix(7, 1, 5));
        Expect.equal("3 greatest", 3, x.addPrefix(9999, 4, 5));
        Expect.equal("3 zero", 4, x.addPrefix(0, 1, 5));
        Expect.equal("30", 4, x.prefixCount());
        Expect.equal("3 the example", 0, x.routeFor(79));
        Expect.equal("3 the other", 5, x.routeFor(7900));
    }

    private static void addPrefixWrong() {
        MailOffice x = new MailOffice();
        x.addPrefix(12, 2, 1);
        for (int length : new int[] {0, 5, -1, Offices.MIN, Offices.MAX}) {
            Expect.argument("3 length " + length, () -> x.addPrefix(0, length, 0));
            Expect.argument("4 length " + length, () -> x.removePrefix(0, length));
            Expect.argument("31 length " + length, () -> x.hasPrefix(0, length));
        }
        int[][] bad = {{-1, 1}, {10, 1}, {100, 2}, {1000, 3}, {10000, 4}, {Offices.MIN, 4},
            {Offices.MAX, 4}};
        for (int[] prefix : bad) {
            Expect.argument("3 digits " + prefix[0], () -> x.addPrefix(prefix[0], prefix[1], 0));
            Expect.argument("4 digits " + prefix[0], () -> x.removePrefix(prefix[0], prefix[1]));
            Expect.argument("31 digits " + prefix[0], () -> x.hasPrefix(prefix[0], prefix[1]));
        }
        for (int route : new int[] {-1, 6, Offices.MIN, Offices.MAX}) {
            Expect.index("3 route " + route, () -> x.addPrefix(1, 1, route));
            Expect.index("3 route before a known prefix", () -> x.addPrefix(12, 2, route));
            Expect.argument("3 argument before route", () -> x.addPrefix(10, 1, route));
        }
        Expect.state("3 again", () -> x.addPrefix(12, 2, 1));
        Expect.state("3 again with another route", () -> x.addPrefix(12, 2, 2));
        Expect.equal("3 unchanged", 1, x.prefixCount());
        Expect.equal("3 route kept", 1, x.routeFor(1200));
        Expect.equal("3 one change", 1, x.undoableCount());
    }

    private static void fullTable() {
        MailOffice x = new MailOffice();
        for (int digits = 0; digits < 12; digits++) {
            Expect.equal("3 fills", digits + 1, x.addPrefix(digits, 2, 0));
        }
        Expect.state("3 the 13th", () -> x.addPrefix(12, 2, 0));
        Expect.index("3 route before full", () -> x.addPrefix(12, 2, 6));
        Expect.argument("3 argument before full", () -> x.addPrefix(12, 1, 6));
        Expect.equal("30 full", 12, x.prefixCount());
        x.removePrefix(5, 2);
        Expect.equal("3 room again", 12, x.addPrefix(12, 2, 0));
    }

    private static void removePrefix() {
        MailOffice x = Offices.after("prefix 1 0;prefix 12 1;prefix 007 2");
        Expect.element("4 other length", () -> x.removePrefix(7, 2));
        Expect.element("4 other digits", () -> x.removePrefix(2, 1));
        Expect.equal("4 its route", 1, x.removePrefix(12, 2));
        Expect.equal("4 one less", 2, x.prefixCount());
        Expect.element("4 not twice", () -> x.removePrefix(12, 2));
        Expect.equal("4 the shorter is left", 0, x.routeFor(1200));
        Expect.equal("4 leading zeros", 2, x.removePrefix(7, 3));
        Expect.equal("4 first added", 0, x.removePrefix(1, 1));
        Expect.equal("4 empty", 0, x.prefixCount());
    }

    private static void hasPrefix() {
        MailOffice x = Offices.after("prefix 007 2");
        Expect.equal("31 has", true, x.hasPrefix(7, 3));
        Expect.equal("31 other length", false, x.hasPrefix(7, 4));
        Expect.equal("31 shorter", false, x.hasPrefix(0, 1));
        Expect.equal("31 other digits", false, x.hasPrefix(8, 3));
        x.removePrefix(7, 3);
        Expect.equal("31 removed", false, x.hasPrefix(7, 3));
    }

    private static void longestMatch() {
        MailOffice x = Offices.after("prefix 12 1;prefix 1 0;prefix 1234 3;prefix 9 5");
        routes(x, 1234, 3, 4);
        routes(x, 1235, 1, 2);
        routes(x, 1299, 1, 2);
        routes(x, 1300, 0, 1);
        routes(x, 1000, 0, 1);
        routes(x, 1999, 0, 1);
        routes(x, 9999, 5, 1);
        noRoute(x, 0);
        noRoute(x, 123);
        noRoute(x, 2000);
        noRoute(x, 8999);
    }

    private static void leadingZeros() {
        MailOffice x = Offices.after("prefix 0 1;prefix 007 2;prefix 0076 3");
        routes(x, 0, 1, 1);
        routes(x, 76, 3, 4);
        routes(x, 77, 2, 3);
        routes(x, 80, 1, 1);
        routes(x, 700, 1, 1);
        noRoute(x, 7000);
    }

    private static void treeOfAChangedTable() {
        MailOffice x = Offices.after("prefix 12 1;prefix 1 0");
        routes(x, 1234, 1, 2);
        x.removePrefix(12, 2);
        routes(x, 1234, 0, 1);
        x.addPrefix(123, 3, 5);
        routes(x, 1234, 5, 3);
        x.removePrefix(1, 1);
        x.addPrefix(99, 2, 2);
        routes(x, 1234, 5, 3);
        routes(x, 9912, 2, 2);
        noRoute(x, 1212);
        noRoute(x, 9123);
        x.undo();
        noRoute(x, 9912);
        fullTree();
    }

    /** Twelve prefixes of four digits, which need more nodes than any shorter ones. */
    private static void fullTree() {
        MailOffice x = new MailOffice();
        for (int route = 0; route < 6; route++) {
            x.addPrefix(1111 * route, 4, route);
            x.addPrefix(1111 * route + 4000 + 9, 4, 5 - route);
        }
        for (int route = 0; route < 6; route++) {
            routes(x, 1111 * route, route, 4);
            routes(x, 1111 * route + 4009, 5 - route, 4);
            noRoute(x, 1111 * route + 1);
        }
        Expect.equal("55 a full tree", true, x.isConsistent());
    }

    private static void routes(MailOffice x, int code, int route, int length) {
        Expect.equal("32 route of " + code, route, x.routeFor(code));
        Expect.equal("33 route of " + code, route, x.routeForByTree(code));
        Expect.equal("34 length for " + code, length, x.matchLength(code));
    }

    private static void noRoute(MailOffice x, int code) {
        Expect.element("32 no route for " + code, () -> x.routeFor(code));
        Expect.element("33 no route for " + code, () -> x.routeForByTree(code));
        Expect.equal("34 no length for " + code, 0, x.matchLength(code));
    }

    private static void wrongCodes() {
        MailOffice x = Offices.after("prefix 0 1");
        for (int code : BAD_CODES) {
            Expect.argument("32 code " + code, () -> x.routeFor(code));
            Expect.argument("33 code " + code, () -> x.routeForByTree(code));
            Expect.argument("34 code " + code, () -> x.matchLength(code));
        }
    }

    private static void codesOf() {
        MailOffice x = Offices.after("prefix 1 0;prefix 12 1;prefix 123 0;prefix 0 3");
        Expect.equal("35 with a hole and an island", 910, x.codesOf(0));
        Expect.equal("35 inside", 90, x.codesOf(1));
        Expect.equal("35 none", 0, x.codesOf(2));
        Expect.equal("35 a digit", 1000, x.codesOf(3));
        for (int route : new int[] {-1, 6, Offices.MIN, Offices.MAX}) {
            Expect.index("35 route " + route, () -> x.codesOf(route));
        }
        MailOffice same = Offices.after("prefix 1 4;prefix 12 4;prefix 1299 4");
        Expect.equal("35 inside of the same route", 1000, same.codesOf(4));
    }

    private static void codesOfCountsAllCodes() {
        MailOffice x = Offices.after("prefix 5 0;prefix 55 1;prefix 555 0;prefix 5555 2",
            "prefix 56 0;prefix 560 3;prefix 0 4", "prefix 00 0;prefix 0000 4");
        int[] counts = new int[6];
        for (int code = 0; code <= 9999; code++) {
            if (x.matchLength(code) > 0) {
                counts[x.routeFor(code)]++;
                Expect.equal("33 " + code, x.routeFor(code), x.routeForByTree(code));
            }
        }
        for (int route = 0; route < 6; route++) {
            Expect.equal("35 all codes of " + route, counts[route], x.codesOf(route));
        }
    }
}
