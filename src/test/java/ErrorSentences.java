import java.util.function.Supplier;

/** The terms of errors: what a refused call changes, and which of several exceptions it throws. */
final class ErrorSentences {
    /** A call that the office refuses. */
    interface Refused {
        Object on(MailOffice x);
    }

    private ErrorSentences() {
    }

    static void test(Sentences s) {
        s.under("Terms");
        String unchanged = "A method that throws an exception leaves the office unchanged, unless"
            + " its description says otherwise.";
        s.test(unchanged, ErrorSentences::refusedChanges);
        s.test(unchanged, ErrorSentences::refusedWithoutRoom);
        s.test(unchanged, ErrorSentences::refusedQuestions);
        s.test(unchanged, ErrorSentences::refusedByANewOffice);
        s.test(unchanged, ErrorSentences::refusedPrograms);
        String first = "If several conditions of a method apply, the exception that is listed first"
            + " is thrown.";
        s.test(first, ErrorSentences::firstOfAccept);
        s.test(first, ErrorSentences::firstOfPrefixes);
        s.test(first, ErrorSentences::firstOfPlace);
        s.test(first, ErrorSentences::firstOfRoutes);
        s.test(first, ErrorSentences::firstOfPrograms);
    }

    /**
     * At hour 2: letter 0 is in a bag of its route 0, letter 1 in the tray without a route, and
     * letter 2 missorted in a bag of route 4; route 5 takes no more standard letters.
     */
    private static MailOffice lived() {
        MailOffice x = Offices.after("prefix 1 0;standard 1000 5;standard 2 9;sort 0");
        x.save();
        Offices.type(x, "so");
        Expect.argument("malformed", x::run);
        Offices.type(x, "sort;pull 1");
        Expect.state("failed", x::run);
        Offices.run(x, "hours 2;priority 3 3;place 2 4;cutoff 5 2");
        x.setDeparture(4, 9);
        x.formatLetter(2);
        Offices.type(x, "hours 1");
        return x;
    }

    /** The same office twice: once it refuses the call, once nobody calls. */
    private static void unchanged(String what, Supplier<MailOffice> office, Refused call) {
        MailOffice x = office.get();
        Object outcome = Expect.outcome(() -> call.on(x));
        Expect.equal(what + " is refused: " + outcome, true, outcome instanceof RuntimeException);
        Expect.equal(what, Offices.everything(office.get()), Offices.everything(x));
    }

    private static void refused(String what, Refused call) {
        unchanged(what, ErrorSentences::lived, call);
    }

    private static void refusedChanges() {
        refused("accept, code", x -> x.accept(-1, 5, true));
        refused("accept, weight", x -> x.accept(5, 51, true));
        refused("addPrefix, length", x -> x.addPrefix(0, 0, 0));
        refused("addPrefix, digits", x -> x.addPrefix(10, 1, 0));
        refused("addPrefix, route", x -> x.addPrefix(2, 1, 6));
        refused("addPrefix, again", x -> x.addPrefix(1, 1, 3));
        refused("removePrefix, length", x -> x.removePrefix(1, 5));
        refused("removePrefix, digits", x -> x.removePrefix(-1, 1));
        refused("removePrefix, none", x -> x.removePrefix(2, 1));
        refused("sort, id", x -> x.sort(3));
        refused("sort, in a bag", x -> x.sort(0));
        refused("sort, no route", x -> x.sort(1));
        refused("place, id", x -> x.place(-1, 0));
        refused("place, route", x -> x.place(1, 6));
        refused("place, in a bag", x -> x.place(0, 1));
        refused("place, late", x -> x.place(1, 5));
        refused("pull, id", x -> x.pull(3));
        refused("pull, in the tray", x -> x.pull(1));
        refused("setCutoff, route", x -> x.setCutoff(6, 1));
        refused("setCutoff, hour", x -> x.setCutoff(0, 25));
        refused("setDeparture, route", x -> x.setDeparture(-1, 1));
        refused("setDeparture, hour", x -> x.setDeparture(0, 24));
        refused("pass, no hours", x -> x.pass(0));
        refused("pass, too many", x -> x.pass(49));
        refused("append", x -> x.append('\n'));
    }

    private static void refusedWithoutRoom() {
        Supplier<MailOffice> full = Offices::withFullRoute;
        unchanged("accept", () -> {
            MailOffice x = new MailOffice();
            Offices.accept(x, 20, 1, 1);
            return x;
        }, x -> x.accept(1, 1, true));
        unchanged("addPrefix", Offices::withFullTable, x -> x.addPrefix(12, 2, 0));
        unchanged("sort", () -> {
            MailOffice x = full.get();
            x.accept(1000, 1, true);
            return x;
        }, x -> x.sort(9));
        unchanged("place", () -> {
            MailOffice x = full.get();
            x.accept(2000, 1, true);
            return x;
        }, x -> x.place(9, 0));
        unchanged("append", () -> {
            MailOffice x = new MailOffice();
            Offices.type(x, "sort;sort;sort;sort;sort;sort;sort;sort;sort;sort;sort;sort;");
            return x;
        }, x -> x.append('s'));
    }

    private static void refusedQuestions() {
        refused("idAt", x -> x.idAt(3));
        refused("codeOf", x -> x.codeOf(3));
        refused("weightOf", x -> x.weightOf(3));
        refused("isPriority", x -> x.isPriority(3));
        refused("returnsOf", x -> x.returnsOf(3));
        refused("isInTray", x -> x.isInTray(3));
        refused("routeOfBag, id", x -> x.routeOfBag(3));
        refused("routeOfBag, in the tray", x -> x.routeOfBag(1));
        refused("bagOf, id", x -> x.bagOf(3));
        refused("bagOf, in the tray", x -> x.bagOf(1));
        refused("isMissorted", x -> x.isMissorted(3));
        refused("canSort", x -> x.canSort(3));
        refused("trayAt", x -> x.trayAt(1));
        refused("hasPrefix", x -> x.hasPrefix(10, 1));
        refused("routeFor, code", x -> x.routeFor(10000));
        refused("routeFor, no route", x -> x.routeFor(2000));
        refused("routeForByTree, code", x -> x.routeForByTree(-1));
        refused("routeForByTree, no route", x -> x.routeForByTree(2000));
        refused("matchLength", x -> x.matchLength(-1));
        refused("codesOf", x -> x.codesOf(6));
        refused("bagCount", x -> x.bagCount(6));
        refused("bagWeight, route", x -> x.bagWeight(6, 0));
        refused("bagWeight, bag", x -> x.bagWeight(0, 1));
        refused("lettersInBag, route", x -> x.lettersInBag(6, 0));
        refused("lettersInBag, bag", x -> x.lettersInBag(0, 1));
        refused("routeWeight", x -> x.routeWeight(6));
        refused("routeWeightByBags", x -> x.routeWeightByBags(6));
        refused("cutoff", x -> x.cutoff(6));
        refused("departure", x -> x.departure(6));
        refused("hoursToDeparture", x -> x.hoursToDeparture(6));
        refused("hoursToDelivery, id", x -> x.hoursToDelivery(3));
        refused("hoursToDelivery, missorted", x -> x.hoursToDelivery(2));
        refused("hoursToDeliveryByHours, id", x -> x.hoursToDeliveryByHours(3));
        refused("hoursToDeliveryByHours, missorted", x -> x.hoursToDeliveryByHours(2));
        refused("freeWeight", x -> x.freeWeight(6));
        refused("fullestBag, route", x -> x.fullestBag(6));
        refused("fullestBag, no bags", x -> x.fullestBag(1));
        refused("routeByWeight", x -> x.routeByWeight(6));
        refused("formatLetter", x -> x.formatLetter(3));
        refused("lineChar", x -> x.lineChar(99));
    }

    private static void refusedByANewOffice() {
        unchanged("meanWeight", MailOffice::new, MailOffice::meanWeight);
        unchanged("deliveredShare", MailOffice::new, MailOffice::deliveredShare);
        unchanged("errorPosition", MailOffice::new, MailOffice::errorPosition);
        unchanged("failedCommand", MailOffice::new, MailOffice::failedCommand);
        unchanged("undo", MailOffice::new, MailOffice::undo);
        unchanged("restore", MailOffice::new, MailOffice::restore);
        unchanged("restore with a change", () -> Offices.after("hours 1"), MailOffice::restore);
        unchanged("undo with a copy", () -> {
            MailOffice x = new MailOffice();
            x.accept(1, 1, true);
            x.save();
            x.undo();
            return x;
        }, MailOffice::undo);
    }

    /**
     * A run changes the buffer and a stored number, as it says; so the twin has refused a program
     * with the same number before, and its buffer is empty too.
     */
    private static void refusedPrograms() {
        unchanged("a malformed program", () -> afterRefused(";x"),
            x -> typedAndRun(x, "hours 9;x"));
        unchanged("a failed program", () -> afterRefused(";pull 1"),
            x -> typedAndRun(x, "unprefix 1;pull 1"));
        MailOffice x = lived();
        String before = Offices.picture(x);
        Expect.state("the second pull", () -> typedAndRun(x, ";pull 0;pull 0"));
        Expect.equal("what can be seen", before, Offices.picture(x));
        Expect.equal("the changes before it", 3, x.undoableCount());
        Expect.equal("the line", 'P', x.lineChar(0));
    }

    /** A lived office that has refused the program in its buffer with this ending. */
    private static MailOffice afterRefused(String ending) {
        MailOffice x = lived();
        Object outcome = Expect.outcome(() -> typedAndRun(x, ending));
        Expect.equal("refused: " + outcome, true, outcome instanceof RuntimeException);
        return x;
    }

    private static Object typedAndRun(MailOffice x, String program) {
        Offices.type(x, program);
        return x.run();
    }

    private static void firstOfAccept() {
        MailOffice x = new MailOffice();
        Offices.accept(x, 20, 1, 1);
        Expect.argument("full, and the code", () -> x.accept(10000, 1, true));
        Expect.argument("full, and the weight", () -> x.accept(1, 0, true));
        Expect.state("only full", () -> x.accept(1, 1, true));
    }

    private static void firstOfPrefixes() {
        MailOffice x = Offices.withFullTable();
        Expect.argument("digits, route and full", () -> x.addPrefix(100, 2, 6));
        Expect.argument("length, route and full", () -> x.addPrefix(0, 0, -1));
        Expect.argument("digits and full", () -> x.addPrefix(-1, 2, 0));
        Expect.index("route and full", () -> x.addPrefix(12, 2, 6));
        Expect.index("route, full and again", () -> x.addPrefix(11, 2, -1));
        MailOffice y = Offices.after("prefix 1 0");
        Expect.index("route and again", () -> y.addPrefix(1, 1, 6));
        Expect.argument("digits and route", () -> y.addPrefix(10, 1, 6));
        Expect.argument("remove what cannot be there", () -> y.removePrefix(10, 1));
        Expect.argument("remove no digits", () -> y.removePrefix(0, 0));
        Expect.argument("code without a route", () -> y.routeFor(10000));
        Expect.argument("by tree, code without a route", () -> y.routeForByTree(-1));
    }

    private static void firstOfPlace() {
        MailOffice x = Offices.after("standard 1000 5;standard 1000 5;place 0 1;cutoff 0 0");
        Expect.element("id and route", () -> x.place(2, 6));
        Expect.element("id and route", () -> x.place(-1, -1));
        Expect.element("id and late", () -> x.place(2, 0));
        Expect.index("route and in a bag", () -> x.place(0, 6));
        Expect.index("route of a letter in the tray", () -> x.place(1, -1));
    }

    private static void firstOfRoutes() {
        MailOffice x = new MailOffice();
        Expect.index("setCutoff, route and hour", () -> x.setCutoff(6, 25));
        Expect.index("setCutoff, route and hour", () -> x.setCutoff(-1, -1));
        Expect.index("setDeparture, route and hour", () -> x.setDeparture(6, 24));
        Expect.index("setDeparture, route and hour", () -> x.setDeparture(-1, -1));
        Expect.index("bagWeight, route and bag", () -> x.bagWeight(6, 0));
        Expect.index("bagWeight, route and bag", () -> x.bagWeight(-1, -1));
        Expect.index("lettersInBag, route and bag", () -> x.lettersInBag(6, 0));
        Expect.index("lettersInBag, route and bag", () -> x.lettersInBag(-1, -1));
        Expect.index("fullestBag, route and no bags", () -> x.fullestBag(6));
    }

    private static void firstOfPrograms() {
        MailOffice x = new MailOffice();
        Expect.argument("a command that fails before the error", () -> typedAndRun(x, "pull 0;x"));
        Expect.equal("the error position", 7, x.errorPosition());
        Expect.element("no failed command", x::failedCommand);
        Expect.argument("a command that fails at the end", () -> typedAndRun(x, "hours 0;"));
        Expect.equal("the length", 8, x.errorPosition());
        Offices.type(x, "sort;sort;sort;sort;sort;sort;sort;sort;sort;sort;sort;sort;");
        Expect.argument("a full buffer, and the character", () -> x.append('\n'));
        Expect.state("only a full buffer", () -> x.append('s'));
    }
}
