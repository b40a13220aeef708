/** Promises 56 and 57: the formatted line. */
final class LineTest {
    private LineTest() {
    }

    public static void main(String[] args) {
        example();
        forms();
        lineChar();
        Expect.finish("LineTest");
    }

    /** The letter of the document's example: id 12, after one return. */
    private static void example() {
        MailOffice x = new MailOffice();
        Offices.accept(x, 12, 1, 1);
        x.accept(76, 20, true);
        x.place(12, 3);
        x.pass(6);
        x.place(12, 3);
        Expect.equal("56 example", "P12:0076 20g r3.0 *1", Offices.line(x, 12));
        Expect.equal("56 length", 20, x.formatLetter(12));
    }

    private static void forms() {
        MailOffice x = Offices.after("standard 0 1;priority 9999 50;standard 120 9;place 1 5");
        Expect.equal("56 standard", "S0:0000 1g", Offices.line(x, 0));
        Expect.equal("56 priority in a bag", "P1:9999 50g r5.0", Offices.line(x, 1));
        Expect.equal("56 zeros", "S2:0120 9g", Offices.line(x, 2));
        x.pass(6);
        Expect.equal("56 come back", "P1:9999 50g *1", Offices.line(x, 1));
        Offices.run(x, "place 1 0;hours 24");
        Expect.equal("56 come back twice", "P1:9999 50g *2", Offices.line(x, 1));
        MailOffice bags = new MailOffice();
        Offices.accept(bags, 7, 1000, 50);
        for (int id = 0; id < 7; id++) {
            bags.place(id, 0);
        }
        Expect.equal("56 second bag", "S3:1000 50g r0.1", Offices.line(bags, 3));
        Expect.equal("56 third bag", "S6:1000 50g r0.2", Offices.line(bags, 6));
    }

    private static void lineChar() {
        MailOffice x = Offices.after("standard 0 1;priority 9999 50;place 1 5");
        Expect.index("57 empty at first", () -> x.lineChar(0));
        x.formatLetter(1);
        Expect.equal("56 replaced by a shorter line", 10, x.formatLetter(0));
        Expect.equal("57 first", 'S', x.lineChar(0));
        Expect.equal("57 last", 'g', x.lineChar(9));
        for (int index : new int[] {-1, 10, Offices.MIN, Offices.MAX}) {
            Expect.index("57 index " + index, () -> x.lineChar(index));
        }
        for (int id : new int[] {2, -1, Offices.MIN, Offices.MAX}) {
            Expect.element("56 id " + id, () -> x.formatLetter(id));
        }
        Expect.equal("56 the line is left as it was", 'g', x.lineChar(9));
        x.undo();
        Expect.equal("57 undo leaves the line", 'g', x.lineChar(9));
        x.save();
        x.restore();
        Expect.equal("57 restore leaves the line", 'g', x.lineChar(9));
        Expect.equal("57 its letter is gone", false, x.isPresent(0));
    }
}
