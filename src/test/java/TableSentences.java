/** The routing table: promises 3, 4 and 30 to 35. */
final class TableSentences {
    private static final String BAD_PREFIX = "Throws `IllegalArgumentException` if the length is"
        + " out of range, or the digits are negative or have more digits than the length";
    private static final String BAD_CODE =
        "Throws `IllegalArgumentException` if the code is out of range";

    /** A method that is asked with a prefix. */
    interface PrefixCall {
        Object answer(MailOffice x, int digits, int length);
    }

    /** A method that is asked with a code. */
    interface CodeCall {
        Object answer(MailOffice x, int code);
    }

    private TableSentences() {
    }

    static void test(Sentences s) {
        badPrefixes(s, "Promise 3: addPrefix",
            (x, digits, length) -> x.addPrefix(digits, length, 0));
        badPrefixes(s, "Promise 4: removePrefix", MailOffice::removePrefix);
        badPrefixes(s, "Promise 31: hasPrefix", MailOffice::hasPrefix);
        addPrefix(s);
        removePrefix(s);
        prefixQuestions(s);
        badCodes(s, "Promise 32: routeFor", MailOffice::routeFor);
        badCodes(s, "Promise 33: routeForByTree", MailOffice::routeForByTree);
        badCodes(s, "Promise 34: matchLength", MailOffice::matchLength);
        noRoute(s, "Promise 32: routeFor", MailOffice::routeFor);
        noRoute(s, "Promise 33: routeForByTree", MailOffice::routeForByTree);
        codeQuestions(s);
    }

    /** The lengths and the digits, which three methods take. */
    private static void badPrefixes(Sentences s, String promise, PrefixCall call) {
        s.under(promise);
        s.test("`length`: the number of digits, 1 to 4", () -> {
            for (int length = 1; length <= 4; length++) {
                Object outcome = outcome(call, 1, length);
                Expect.equal("length " + length + ": " + outcome, false,
                    outcome instanceof IllegalArgumentException);
            }
        });
        s.test(BAD_PREFIX, () -> {
            for (int length : new int[] {0, 5, -1, Offices.MIN, Offices.MAX}) {
                Expect.argument("length " + length, () -> call.answer(new MailOffice(), 0, length));
            }
        });
        s.test(BAD_PREFIX, () -> {
            for (int digits : new int[] {-1, -9, Offices.MIN}) {
                for (int length = 1; length <= 4; length++) {
                    int asked = length;
                    Expect.argument("digits " + digits,
                        () -> call.answer(new MailOffice(), digits, asked));
                }
            }
        });
        s.test(BAD_PREFIX, () -> {
            int most = 0;
            for (int length = 1; length <= 4; length++) {
                most = 10 * most + 9;
                int asked = length;
                for (int digits : new int[] {most + 1, Offices.MAX}) {
                    Expect.argument("digits " + digits,
                        () -> call.answer(new MailOffice(), digits, asked));
                }
                Object outcome = outcome(call, most, length);
                Expect.equal("digits " + most + ": " + outcome, false,
                    outcome instanceof IllegalArgumentException);
            }
        });
    }

    private static Object outcome(PrefixCall call, int digits, int length) {
        return Expect.outcome(() -> call.answer(new MailOffice(), digits, length));
    }

    private static void addPrefix(Sentences s) {
        s.under("Promise 3: addPrefix");
        s.test("For example, the digits 7 with the length 3 are the prefix 007.", () -> {
            MailOffice x = new MailOffice();
            x.addPrefix(7, 3, 2);
            Expect.equal("first", 2, x.routeFor(70));
            Expect.equal("last", 2, x.routeFor(79));
            Expect.element("before", () -> x.routeFor(69));
            Expect.element("after", () -> x.routeFor(80));
            Expect.element("700", () -> x.routeFor(700));
            Expect.equal("as a command", 2, Offices.run(x, "unprefix 007;prefix 007 3"));
        });
        s.test("Returns the number of prefixes afterwards.", () -> {
            MailOffice x = new MailOffice();
            for (int count = 1; count <= 12; count++) {
                Expect.equal("afterwards", count, x.addPrefix(count, 4, count % 6));
            }
            x.removePrefix(5, 4);
            Expect.equal("12 again", 12, x.addPrefix(0, 1, 0));
        });
        String state = "Throws `IllegalStateException` if the table has 12 prefixes, or already has"
            + " this prefix";
        s.test(state, () -> {
            MailOffice x = Offices.withFullTable();
            Expect.state("the 13th", () -> x.addPrefix(12, 2, 0));
            Expect.state("one of the 12", () -> x.addPrefix(11, 2, 0));
            Expect.equal("still 12", 12, x.prefixCount());
            x.removePrefix(11, 2);
            Expect.equal("11 are not 12", 12, x.addPrefix(9999, 4, 5));
        });
        s.test(state, () -> {
            MailOffice x = new MailOffice();
            x.addPrefix(0, 1, 3);
            x.addPrefix(12, 2, 3);
            Expect.state("same route", () -> x.addPrefix(12, 2, 3));
            Expect.state("another route", () -> x.addPrefix(12, 2, 4));
            Expect.state("the other", () -> x.addPrefix(0, 1, 4));
            Expect.equal("its route is kept", 3, x.routeFor(1200));
            Expect.equal("same digits, another length", 3, x.addPrefix(12, 3, 4));
            Expect.equal("zeros of another length", 4, x.addPrefix(0, 2, 4));
            x.removePrefix(12, 2);
            Expect.equal("after it was removed", 4, x.addPrefix(12, 2, 4));
        });
    }

    private static void removePrefix(Sentences s) {
        s.under("Promise 4: removePrefix");
        s.test("Throws `NoSuchElementException` if the table does not have this prefix", () -> {
            MailOffice x = new MailOffice();
            Expect.element("empty table", () -> x.removePrefix(12, 2));
            x.addPrefix(12, 2, 1);
            Expect.element("another length", () -> x.removePrefix(12, 3));
            Expect.element("other digits", () -> x.removePrefix(13, 2));
            Expect.element("its beginning", () -> x.removePrefix(1, 1));
            Expect.element("a longer one", () -> x.removePrefix(120, 3));
            Expect.equal("it has this one", 1, x.removePrefix(12, 2));
            Expect.element("no more", () -> x.removePrefix(12, 2));
            MailOffice full = Offices.withFullTable();
            Expect.element("none of the 12", () -> full.removePrefix(12, 2));
            Expect.equal("still 12", 12, full.prefixCount());
        });
        s.test("Returns the route to which it belonged.", () -> {
            MailOffice x = Offices.after("prefix 1 0;prefix 12 5;prefix 123 3");
            Expect.equal("the one in the middle", 5, x.removePrefix(12, 2));
            Expect.equal("the least route", 0, x.removePrefix(1, 1));
            Expect.equal("the last prefix", 3, x.removePrefix(123, 3));
        });
    }

    private static void prefixQuestions(Sentences s) {
        s.under("Promise 30: prefixCount");
        s.test("Returns the number of prefixes in the routing table.", () -> {
            MailOffice x = new MailOffice();
            Expect.equal("empty", 0, x.prefixCount());
            Expect.element("refused", () -> x.removePrefix(1, 1));
            Expect.equal("still empty", 0, x.prefixCount());
            Expect.equal("full", 12, Offices.withFullTable().prefixCount());
        });
        s.under("Promise 31: hasPrefix");
        s.test("Returns true if it has.", () -> {
            MailOffice x = new MailOffice();
            Expect.equal("empty table", false, x.hasPrefix(0, 1));
            x.addPrefix(7, 3, 2);
            Expect.equal("has", true, x.hasPrefix(7, 3));
            Expect.equal("shorter", false, x.hasPrefix(7, 2));
            Expect.equal("longer", false, x.hasPrefix(7, 4));
            Expect.equal("its beginning", false, x.hasPrefix(0, 2));
            MailOffice full = Offices.withFullTable();
            Expect.equal("the first of 12", true, full.hasPrefix(0, 2));
            Expect.equal("the last of 12", true, full.hasPrefix(11, 2));
            Expect.equal("none of 12", false, full.hasPrefix(12, 2));
        });
    }

    private static void badCodes(Sentences s, String promise, CodeCall call) {
        s.under(promise);
        s.test("`code`: the code, 0 to 9999", () -> {
            MailOffice x = Offices.after("prefix 0 1;prefix 9 1");
            Expect.equal("least", 1, call.answer(x, 0));
            Expect.equal("greatest", 1, call.answer(x, 9999));
        });
        s.test(BAD_CODE, () -> {
            MailOffice x = Offices.after("prefix 0 1;prefix 9 1;prefix 1 1");
            for (int code : new int[] {-1, 10000, Offices.MIN, Offices.MAX}) {
                Expect.argument("code " + code, () -> call.answer(x, code));
                Expect.argument("empty table", () -> call.answer(new MailOffice(), code));
            }
        });
    }

    private static void noRoute(Sentences s, String promise, CodeCall call) {
        s.under(promise);
        s.test("Throws `NoSuchElementException` if the code has no route", () -> {
            MailOffice x = new MailOffice();
            Expect.element("empty table", () -> call.answer(x, 0));
            Offices.run(x, "prefix 12 0;prefix 0001 5");
            for (int code : new int[] {0, 2, 1199, 1300, 120, 9999}) {
                Expect.element("code " + code, () -> call.answer(x, code));
            }
            Expect.equal("first", 0, call.answer(x, 1200));
            Expect.equal("last", 0, call.answer(x, 1299));
            Expect.equal("alone", 5, call.answer(x, 1));
            x.removePrefix(12, 2);
            Expect.element("removed", () -> call.answer(x, 1200));
        });
    }

    private static void codeQuestions(Sentences s) {
        s.under("Promise 32: routeFor");
        s.test("Returns the route of a code, found by looking at all prefixes.", () -> {
            MailOffice x = Offices.withFullTable();
            Expect.equal("the first of 12", 0, x.routeFor(0));
            Expect.equal("the last of 12", 0, x.routeFor(1199));
            x.removePrefix(0, 2);
            x.addPrefix(1199, 4, 5);
            Expect.equal("the longest is the last", 5, x.routeFor(1199));
            x.removePrefix(11, 2);
            x.addPrefix(11, 2, 3);
            Expect.equal("the longest is not the last", 5, x.routeFor(1199));
        });
        s.under("Promise 33: routeForByTree");
        s.test("Returns the same route as routeFor, but walks digit by digit through a tree of the"
            + " prefixes.", TableSentences::fullTree);
        s.test("Returns the same route as routeFor, but walks digit by digit through a tree of the"
            + " prefixes.", TableSentences::treeOfAChangedTable);
        s.under("Promise 34: matchLength");
        s.test("Returns the length of the longest prefix that matches a code.", () -> {
            MailOffice x = Offices.after("prefix 0 0;prefix 00 0;prefix 000 0;prefix 0000 0");
            int[] codes = {999, 99, 9, 0};
            for (int length = 1; length <= 4; length++) {
                Expect.equal("length", length, x.matchLength(codes[length - 1]));
            }
        });
        s.test("Returns the number of digits, 0 if no prefix matches.", () -> {
            Expect.equal("empty table", 0, new MailOffice().matchLength(0));
            MailOffice x = Offices.after("prefix 5 0;prefix 9999 0");
            Expect.equal("none", 0, x.matchLength(4999));
            Expect.equal("one digit", 1, x.matchLength(5000));
            Expect.equal("none again", 0, x.matchLength(6000));
            Expect.equal("four digits", 4, x.matchLength(9999));
        });
        s.under("Promise 35: codesOf");
        s.test("Returns how many of the codes from 0 to 9999 have a route.", () -> {
            MailOffice x = new MailOffice();
            Expect.equal("none", 0, x.codesOf(0));
            for (int digit = 0; digit < 10; digit++) {
                x.addPrefix(digit, 1, 0);
            }
            Expect.equal("all, 0 and 9999 too", 10000, x.codesOf(0));
            x.addPrefix(0, 4, 1);
            x.addPrefix(9999, 4, 2);
            Expect.equal("without the first and the last", 9998, x.codesOf(0));
            Expect.equal("the first", 1, x.codesOf(1));
            Expect.equal("the last", 1, x.codesOf(2));
        });
        s.test("Returns the number of codes whose route is this route.", () -> {
            MailOffice x = Offices.after("prefix 1 0;prefix 12 1;prefix 123 0;prefix 1234 2");
            Expect.equal("a hole and an island with a hole", 1000 - 100 + 10 - 1, x.codesOf(0));
            Expect.equal("the hole without the island", 100 - 10, x.codesOf(1));
            Expect.equal("the hole in the island", 1, x.codesOf(2));
            Expect.equal("no prefix", 0, x.codesOf(3));
            Offices.run(x, "unprefix 12;prefix 12 0");
            Expect.equal("inside of the same route", 999, x.codesOf(0));
        });
    }

    /** Twelve prefixes of four digits with all ten first digits, which need the most nodes. */
    private static void fullTree() {
        MailOffice x = new MailOffice();
        for (int route = 0; route < 6; route++) {
            x.addPrefix(1111 * route, 4, route);
            x.addPrefix(1111 * route + 4009, 4, 5 - route);
        }
        for (int route = 0; route < 6; route++) {
            Expect.equal("first digit " + route, route, x.routeForByTree(1111 * route));
            int code = 1111 * route + 4009;
            Expect.equal("first digit " + code / 1000, 5 - route, x.routeForByTree(code));
            int other = 1111 * route + 1;
            Expect.element("code " + other, () -> x.routeForByTree(other));
        }
    }

    private static void treeOfAChangedTable() {
        MailOffice x = Offices.after("prefix 0099 1;prefix 9900 2");
        Expect.equal("0099", 1, x.routeForByTree(99));
        Expect.equal("9900", 2, x.routeForByTree(9900));
        Offices.run(x, "unprefix 0099;unprefix 9900");
        Expect.element("empty again, 0099", () -> x.routeForByTree(99));
        Expect.element("empty again, 9900", () -> x.routeForByTree(9900));
        Offices.run(x, "prefix 9090 3;prefix 0909 4");
        Expect.equal("9090", 3, x.routeForByTree(9090));
        Expect.equal("0909", 4, x.routeForByTree(909));
        for (int code : new int[] {0, 99, 9900, 9999, 9, 9009, 990}) {
            Expect.element("code " + code, () -> x.routeForByTree(code));
        }
        Offices.run(x, "prefix 9 5;prefix 90 0");
        Expect.equal("a beginning of a longer one", 5, x.routeForByTree(9999));
        Expect.equal("the longest", 3, x.routeForByTree(9090));
        Expect.equal("route 0", 0, x.routeForByTree(9091));
    }
}
