/** The letters: promises 1, 2, 14 to 21, 53, 54, 56, 57, and the ids in other promises. */
final class LetterSentences {
    private static final String NO_LETTER =
        "Throws `NoSuchElementException` if no letter in the office has this id";

    /** A method that is asked with an id. */
    interface IdCall {
        Object answer(MailOffice x, int id);
    }

    private LetterSentences() {
    }

    static void test(Sentences s) {
        newOffice(s);
        accept(s);
        questions(s);
        idsInTheTray(s);
        idsInBags(s);
        shares(s);
        line(s);
    }

    private static void newOffice(Sentences s) {
        s.under("Promise 1: A new object");
        s.test("Creates an office without letters and prefixes, at hour 0 of day 0.", () -> {
            MailOffice x = new MailOffice();
            Expect.equal("letters", "0 0", x.letterCount() + " " + x.traySize());
            Expect.equal("prefixes", 0, x.prefixCount());
            Expect.equal("time", "0 0", x.hour() + " " + x.day());
            Expect.equal("counts", 0, x.deliveredCount() + x.deadCount() + x.returnCount());
            Expect.equal("changes", 0, x.undoableCount());
            Expect.index("no first letter", () -> x.idAt(0));
            Expect.element("no route", () -> x.routeFor(0));
            for (int route = 0; route < 6; route++) {
                Expect.equal("bags", 0, x.bagCount(route));
                Expect.equal("codes", 0, x.codesOf(route));
            }
        });
    }

    private static void accept(Sentences s) {
        s.under("Promise 2: accept");
        s.test("`code`: the code, 0 to 9999", () -> {
            MailOffice x = new MailOffice();
            Expect.equal("least", 0, x.codeOf(x.accept(0, 5, true)));
            Expect.equal("greatest", 9999, x.codeOf(x.accept(9999, 5, true)));
        });
        s.test("`weight`: the weight in grams, 1 to 50", () -> {
            MailOffice x = new MailOffice();
            Expect.equal("least", 1, x.weightOf(x.accept(5, 1, true)));
            Expect.equal("greatest", 50, x.weightOf(x.accept(5, 50, true)));
        });
        s.test("`isPriority`: true for a priority letter, false for a standard letter", () -> {
            MailOffice x = new MailOffice();
            Expect.equal("true", true, x.isPriority(x.accept(5, 1, true)));
            Expect.equal("false", false, x.isPriority(x.accept(5, 1, false)));
        });
        String argument = "Throws `IllegalArgumentException` if the code or the weight is out of"
            + " range";
        s.test(argument, () -> {
            MailOffice x = new MailOffice();
            for (int code : new int[] {-1, 10000, Offices.MIN, Offices.MAX}) {
                Expect.argument("code " + code, () -> x.accept(code, 5, true));
            }
            Expect.equal("none came in", 0, x.letterCount());
        });
        s.test(argument, () -> {
            MailOffice x = new MailOffice();
            for (int weight : new int[] {0, 51, -1, Offices.MIN, Offices.MAX}) {
                Expect.argument("weight " + weight, () -> x.accept(5, weight, false));
            }
            Expect.equal("none came in", 0, x.letterCount());
        });
        s.test("Throws `IllegalStateException` if 20 letters are in the office", () -> {
            MailOffice x = new MailOffice();
            Offices.accept(x, 19, 1000, 50);
            Expect.equal("19 are not 20", 19, x.accept(1000, 50, false));
            Expect.state("20", () -> x.accept(1000, 50, false));
            Expect.state("20", () -> x.accept(0, 1, true));
            Expect.equal("still 20", 20, x.letterCount());
        });
    }

    private static void questions(Sentences s) {
        s.under("Promise 14: letterCount");
        s.test("Returns the number of letters in the office.", () -> {
            MailOffice x = Offices.withGoneLetters();
            Expect.equal("without those who are gone", 2, x.letterCount());
            Offices.accept(x, 18, 5, 5);
            Expect.equal("full", 20, x.letterCount());
            Expect.equal("empty", 0, new MailOffice().letterCount());
        });
        s.under("Promise 15: isPresent");
        s.test("`id`: any id", () -> {
            MailOffice x = new MailOffice();
            for (int id : new int[] {0, 1, -1, Offices.MIN, Offices.MAX}) {
                Expect.equal("empty office, id " + id, false, x.isPresent(id));
            }
            x.accept(1, 1, true);
            for (int id : new int[] {1, -1, Offices.MIN, Offices.MAX}) {
                Expect.equal("id " + id, false, x.isPresent(id));
            }
        });
        s.test("Returns true if a letter in the office has this id.", () -> {
            MailOffice x = Offices.withGoneLetters();
            boolean[] present = {false, false, true, true, false};
            for (int id = 0; id < present.length; id++) {
                Expect.equal("id " + id, present[id], x.isPresent(id));
            }
        });
        idAt(s);
        s.under("Promise 20: returnsOf");
        s.test("Returns the number, 0 to 2.", () -> {
            MailOffice x = Offices.after("priority 5 5");
            for (int returns = 0; returns <= 2; returns++) {
                Expect.equal("in the tray", returns, x.returnsOf(0));
                x.place(0, 1);
                Expect.equal("in a bag", returns, x.returnsOf(0));
                x.pass(24);
            }
            Expect.element("no third", () -> x.returnsOf(0));
        });
        s.under("Promise 21: isInTray");
        s.test("Returns true if it is in the tray, false if it is in a bag.", () -> {
            MailOffice x = Offices.after("priority 5 5");
            Expect.equal("accepted", true, x.isInTray(0));
            x.place(0, 0);
            Expect.equal("in bag 0 of route 0", false, x.isInTray(0));
            x.pull(0);
            Expect.equal("pulled", true, x.isInTray(0));
            x.place(0, 5);
            Expect.equal("in a bag of route 5", false, x.isInTray(0));
            x.pass(6);
            Expect.equal("come back", true, x.isInTray(0));
        });
    }

    private static void idAt(Sentences s) {
        s.under("Promise 16: idAt");
        s.test("`position`: the position, starting at 0", () -> {
            MailOffice x = Offices.withGoneLetters();
            Expect.equal("0", 2, x.idAt(0));
            Expect.equal("1", 3, x.idAt(1));
        });
        s.test("Returns the id of a letter in the office by its position in the order of ids.",
            () -> {
                MailOffice x = Offices.after("standard 1 1;priority 1 1;standard 1 1;priority 1 1");
                Offices.run(x, "place 0 0;place 2 1;pull 0");
                Expect.equal("wherever they are", "0 1 2 3", Offices.ids(x));
            });
        s.test("Throws `IndexOutOfBoundsException` if the position is negative or not less than the"
            + " number of letters in the office", () -> {
                MailOffice x = Offices.withGoneLetters();
                for (int position : new int[] {-1, 2, 3, Offices.MIN, Offices.MAX}) {
                    Expect.index("position " + position, () -> x.idAt(position));
                }
                Expect.index("empty office", () -> new MailOffice().idAt(0));
                Offices.accept(x, 18, 5, 5);
                Expect.equal("the last of 20", 21, x.idAt(19));
                Expect.index("full office", () -> x.idAt(20));
            });
    }

    private static void idsInTheTray(Sentences s) {
        absent(s, "Promise 5: sort", 2, MailOffice::sort);
        absent(s, "Promise 7: place", 2, (x, id) -> x.place(id, 0));
        absent(s, "Promise 17: codeOf", 2, MailOffice::codeOf);
        absent(s, "Promise 18: weightOf", 2, MailOffice::weightOf);
        absent(s, "Promise 19: isPriority", 2, MailOffice::isPriority);
        absent(s, "Promise 20: returnsOf", 2, MailOffice::returnsOf);
        absent(s, "Promise 21: isInTray", 2, MailOffice::isInTray);
        absent(s, "Promise 24: isMissorted", 2, MailOffice::isMissorted);
        absent(s, "Promise 25: canSort", 2, MailOffice::canSort);
        absent(s, "Promise 56: formatLetter", 2, MailOffice::formatLetter);
    }

    private static void idsInBags(Sentences s) {
        absent(s, "Promise 8: pull", 3, MailOffice::pull);
        absent(s, "Promise 22: routeOfBag", 3, MailOffice::routeOfBag);
        absent(s, "Promise 23: bagOf", 3, MailOffice::bagOf);
        absent(s, "Promise 44: hoursToDelivery", 3, MailOffice::hoursToDelivery);
        absent(s, "Promise 45: hoursToDeliveryByHours", 3, MailOffice::hoursToDeliveryByHours);
    }

    private static void absent(Sentences s, String promise, int present, IdCall call) {
        s.under(promise);
        s.test(NO_LETTER, () -> {
            MailOffice x = Offices.withGoneLetters();
            for (int id : new int[] {0, 1, 4, -1, Offices.MIN, Offices.MAX}) {
                Expect.element("id " + id, () -> call.answer(x, id));
            }
            Object answer = Expect.outcome(() -> call.answer(x, present));
            Expect.equal("present: " + answer, false, answer instanceof RuntimeException);
            Expect.element("empty office", () -> call.answer(new MailOffice(), 0));
        });
    }

    private static void shares(Sentences s) {
        s.under("Promise 53: meanWeight");
        s.test("Returns the mean weight of the letters in the office: the sum, converted to double,"
            + " divided by their number.", () -> {
                MailOffice x = new MailOffice();
                x.accept(1, 1, true);
                Expect.equal("one", 1.0, x.meanWeight());
                x.accept(1, 2, true);
                Expect.equal("not rounded", 1.5, x.meanWeight());
                x.accept(1, 2, true);
                x.place(2, 0);
                Expect.equal("as a double", 5.0 / 3, x.meanWeight());
                Offices.accept(x, 17, 1, 50);
                Expect.equal("full", 855.0 / 20, x.meanWeight());
            });
        s.test("Throws `ArithmeticException` if the office has no letters", () -> {
            MailOffice x = new MailOffice();
            Expect.arithmetic("new", x::meanWeight);
            Offices.run(x, "prefix 1 0;priority 1000 5;sort");
            Expect.equal("one in a bag", 5.0, x.meanWeight());
            x.pass(6);
            Expect.arithmetic("delivered", x::meanWeight);
        });
        s.under("Promise 54: deliveredShare");
        s.test("Returns the number of delivered letters, converted to float, divided by the number"
            + " of all letters that have been accepted so far.", () -> {
                MailOffice x = Offices.withGoneLetters();
                Expect.equal("one of four, a dead one among them", 0.25f, x.deliveredShare());
                Offices.run(x, "priority 1 1;priority 1 1;priority 1 1");
                Expect.equal("as a float", 1.0f / 7, x.deliveredShare());
                x.undo();
                Expect.equal("the undone are not accepted", 0.25f, x.deliveredShare());
                MailOffice all = Offices.after("prefix 1 0;priority 1000 5;sort;hours 6");
                Expect.equal("all", 1.0f, all.deliveredShare());
            });
        s.test("Throws `ArithmeticException` if no letter has been accepted so far", () -> {
            MailOffice x = new MailOffice();
            Expect.arithmetic("new", x::deliveredShare);
            Expect.argument("refused", () -> x.accept(-1, 1, true));
            Expect.arithmetic("only a refused one", x::deliveredShare);
            x.accept(1, 1, true);
            Expect.equal("one", 0.0f, x.deliveredShare());
            x.undo();
            Expect.arithmetic("undone", x::deliveredShare);
        });
    }

    private static void line(Sentences s) {
        s.under("Promise 56: formatLetter");
        s.test("Formats a letter into the line, replacing the previous line: \"P\" for a priority"
            + " letter or \"S\" for a standard letter, the id, \":\", the code with four digits,"
            + " \" \", the weight, \"g\", then \" r\", the route and \".\" and the number of the"
            + " bag if it is in a bag, and \" *\" and the number of returns if there are any.",
            LetterSentences::forms);
        s.test("An example is \"P12:0076 20g r3.0 *1\".", () -> {
            MailOffice x = new MailOffice();
            Offices.accept(x, 12, 1, 1);
            x.accept(76, 20, true);
            Offices.run(x, "place 12 1;hours 6;place 12 3");
            Expect.equal("the example", "P12:0076 20g r3.0 *1", Offices.line(x, 12));
        });
        s.test("Returns the length of the line.", () -> {
            MailOffice x = Offices.after("standard 1 1;priority 1 50;place 1 0");
            Expect.equal("short", 10, x.formatLetter(0));
            Expect.equal("with a bag", 16, x.formatLetter(1));
        });
        s.under("Promise 57: lineChar");
        s.test("Returns a character of the line, which is empty at first.", () -> {
            MailOffice x = Offices.after("standard 1 1");
            Expect.index("empty", () -> x.lineChar(0));
            x.formatLetter(0);
            Expect.equal("no longer", 'S', x.lineChar(0));
        });
        s.test("`index`: the index, starting at 0", () -> {
            MailOffice x = Offices.after("priority 1234 50");
            x.formatLetter(0);
            Expect.equal("0", 'P', x.lineChar(0));
            Expect.equal("1", '0', x.lineChar(1));
        });
        s.test("Throws `IndexOutOfBoundsException` if the index is negative or not less than the"
            + " length of the line", () -> {
                MailOffice x = Offices.after("priority 1234 50;standard 1 1");
                x.formatLetter(0);
                int length = x.formatLetter(1);
                Expect.equal("the last", 'g', x.lineChar(length - 1));
                for (int index : new int[] {-1, length, length + 1, Offices.MIN, Offices.MAX}) {
                    Expect.index("index " + index, () -> x.lineChar(index));
                }
            });
    }

    private static void forms() {
        MailOffice x = Offices.after("standard 0 1;priority 9999 50;standard 120 9;place 1 5");
        Expect.equal("least", "S0:0000 1g", Offices.line(x, 0));
        Expect.equal("in a bag", "P1:9999 50g r5.0", Offices.line(x, 1));
        Expect.equal("a shorter line", "S2:0120 9g", Offices.line(x, 2));
        Expect.equal("no more than it", 10, x.formatLetter(2));
        x.pass(6);
        Expect.equal("a return", "P1:9999 50g *1", Offices.line(x, 1));
        Offices.run(x, "place 1 0;hours 24");
        Expect.equal("two returns", "P1:9999 50g *2", Offices.line(x, 1));
        MailOffice bags = Offices.withFullRoute();
        Expect.equal("first bag", "S2:1000 50g r0.0", Offices.line(bags, 2));
        Expect.equal("third bag", "S8:1000 50g r0.2", Offices.line(bags, 8));
    }
}
