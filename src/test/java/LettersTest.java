/** Promises 1, 2, 14 to 21, 53: a new office, and the letters in it. */
final class LettersTest {
    private LettersTest() {
    }

    public static void main(String[] args) {
        newObject();
        accept();
        acceptWrong();
        acceptFull();
        idsAreNeverUsedAgain();
        countsAndPresence();
        idAt();
        attributes();
        meanWeight();
        Expect.finish("LettersTest");
    }

    private static void newObject() {
        MailOffice x = new MailOffice();
        Expect.equal("1 letters", 0, x.letterCount());
        Expect.equal("1 tray", 0, x.traySize());
        Expect.equal("1 prefixes", 0, x.prefixCount());
        Expect.equal("1 hour", 0, x.hour());
        Expect.equal("1 day", 0, x.day());
        Expect.equal("1 delivered", 0, x.deliveredCount());
        Expect.equal("1 dead", 0, x.deadCount());
        Expect.equal("1 returns", 0, x.returnCount());
        Expect.equal("1 undoable", 0, x.undoableCount());
        for (int route = 0; route < 6; route++) {
            Expect.equal("1 cutoff", 24, x.cutoff(route));
            Expect.equal("1 departure", 6, x.departure(route));
            Expect.equal("1 bags", 0, x.bagCount(route));
        }
        Expect.index("1 line", () -> x.lineChar(0));
        Expect.element("1 errorPosition", x::errorPosition);
        Expect.element("1 failedCommand", x::failedCommand);
        Expect.state("1 restore", x::restore);
        Expect.equal("1 first in the buffer", 1, x.append('s'));
    }

    private static void accept() {
        MailOffice x = new MailOffice();
        Expect.equal("2 first id", 0, x.accept(0, 1, false));
        Expect.equal("2 next id", 1, x.accept(9999, 50, true));
        Expect.equal("2 same letter again", 2, x.accept(9999, 50, true));
        Expect.equal("2 in the tray", true, x.isInTray(1));
        Expect.equal("2 tray", "1 2 0", Offices.tray(x));
    }

    private static void acceptWrong() {
        MailOffice x = new MailOffice();
        for (int code : new int[] {-1, 10000, Offices.MIN, Offices.MAX}) {
            Expect.argument("2 code " + code, () -> x.accept(code, 20, true));
        }
        for (int weight : new int[] {0, 51, -1, Offices.MIN, Offices.MAX}) {
            Expect.argument("2 weight " + weight, () -> x.accept(1234, weight, false));
        }
        Expect.equal("2 nothing came in", 0, x.letterCount());
        Expect.equal("2 no change", 0, x.undoableCount());
        Expect.equal("2 the id was not used", 0, x.accept(1, 1, true));
    }

    private static void acceptFull() {
        MailOffice x = new MailOffice();
        Offices.accept(x, 19, 1111, 50);
        Expect.equal("2 the 20th", 19, x.accept(1111, 50, true));
        Expect.state("2 the 21st", () -> x.accept(1111, 50, true));
        Expect.argument("2 argument first", () -> x.accept(10000, 50, true));
        Expect.argument("2 argument first", () -> x.accept(1, 51, true));
        x.addPrefix(1, 1, 0);
        x.sortAll();
        Expect.state("2 letters in bags count", () -> x.accept(1111, 50, true));
        x.pass(6);
        Expect.equal("2 after the departure", 20, x.accept(1111, 50, true));
    }

    private static void idsAreNeverUsedAgain() {
        MailOffice x = new MailOffice();
        x.addPrefix(1, 1, 0);
        x.accept(1000, 1, true);
        x.sortAll();
        x.pass(6);
        Expect.equal("2 office is empty", 0, x.letterCount());
        Expect.equal("2 next after a delivery", 1, x.accept(1000, 1, true));
        x.undo();
        Expect.equal("2 undo takes the id back", 1, x.accept(1000, 1, true));
    }

    private static void countsAndPresence() {
        MailOffice x = Offices.after("prefix 1 0;priority 1000 5;standard 2000 5;sort");
        Expect.equal("14 tray and bags", 2, x.letterCount());
        Expect.equal("15 in a bag", true, x.isPresent(0));
        Expect.equal("15 in the tray", true, x.isPresent(1));
        Expect.equal("15 not yet", false, x.isPresent(2));
        Expect.equal("15 negative", false, x.isPresent(-1));
        Expect.equal("15 least", false, x.isPresent(Offices.MIN));
        Expect.equal("15 greatest", false, x.isPresent(Offices.MAX));
        x.pass(6);
        Expect.equal("14 after a delivery", 1, x.letterCount());
        Expect.equal("15 delivered", false, x.isPresent(0));
    }

    private static void idAt() {
        MailOffice x = Offices.after("prefix 1 0;standard 2 5;priority 1000 5;priority 3 5;sort");
        Expect.equal("16 order of ids", "0 1 2", Offices.ids(x));
        x.pass(6);
        Expect.equal("16 without the delivered", "0 2", Offices.ids(x));
        x.accept(4, 4, true);
        Expect.equal("16 with a new one", "0 2 3", Offices.ids(x));
        for (int position : new int[] {-1, 3, Offices.MIN, Offices.MAX}) {
            Expect.index("16 position " + position, () -> x.idAt(position));
        }
        Expect.index("16 empty office", () -> new MailOffice().idAt(0));
    }

    private static void attributes() {
        MailOffice x = Offices.after("standard 2 5;priority 9999 50;place 1 4;hours 6");
        Expect.equal("17", 2, x.codeOf(0));
        Expect.equal("17", 9999, x.codeOf(1));
        Expect.equal("18", 5, x.weightOf(0));
        Expect.equal("18", 50, x.weightOf(1));
        Expect.equal("19", false, x.isPriority(0));
        Expect.equal("19", true, x.isPriority(1));
        Expect.equal("20", 0, x.returnsOf(0));
        Expect.equal("20", 1, x.returnsOf(1));
        Expect.equal("21", true, x.isInTray(1));
        Offices.run(x, "place 1 4;hours 24;place 1 4");
        Expect.equal("20 twice", 2, x.returnsOf(1));
        Expect.equal("21 in a bag", false, x.isInTray(1));
        x.pass(24);
        for (int id : new int[] {1, 2, -1, Offices.MIN, Offices.MAX}) {
            Expect.element("17 id " + id, () -> x.codeOf(id));
            Expect.element("18 id " + id, () -> x.weightOf(id));
            Expect.element("19 id " + id, () -> x.isPriority(id));
            Expect.element("20 id " + id, () -> x.returnsOf(id));
            Expect.element("21 id " + id, () -> x.isInTray(id));
        }
    }

    private static void meanWeight() {
        MailOffice x = new MailOffice();
        Expect.arithmetic("53 no letters", x::meanWeight);
        x.accept(1, 1, true);
        x.accept(2, 2, true);
        Expect.equal("53 not rounded", 1.5, x.meanWeight());
        x.accept(3, 2, true);
        x.place(2, 0);
        Expect.equal("53 with bags", 5.0 / 3, x.meanWeight());
        MailOffice gone = Offices.after("prefix 0 0;priority 0 9;sort;hours 6");
        Expect.arithmetic("53 all delivered", gone::meanWeight);
    }
}
