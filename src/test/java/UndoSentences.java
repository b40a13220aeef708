/** Undo, save and restore: the terms of undo, and promises 62 to 65. */
final class UndoSentences {
    private UndoSentences() {
    }

    static void test(Sentences s) {
        terms(s);
        undo(s);
        save(s);
        restore(s);
    }

    private static void terms(Sentences s) {
        s.under("Terms");
        String changes = "The calls of accept, addPrefix, removePrefix, sort, sortAll, place, pull,"
            + " setCutoff, setDeparture, pass and run that return normally are changes, even if"
            + " they have no effect.";
        s.test(changes, UndoSentences::everyChange);
        s.test(changes, () -> {
            MailOffice x = new MailOffice();
            x.sortAll();
            x.setCutoff(5, 24);
            x.setDeparture(5, 6);
            Offices.run(x, "sort");
            Expect.equal("without an effect", 4, x.undoableCount());
            Expect.equal("the latest", 3, x.undo());
        });
        s.test("Up to 8 changes can be undone, the latest change first.", () -> {
            MailOffice x = new MailOffice();
            for (int hour = 1; hour <= 9; hour++) {
                x.pass(1);
                Expect.equal("after " + hour, Math.min(hour, 8), x.undoableCount());
            }
            for (int left = 7; left >= 0; left--) {
                Expect.equal("left", left, x.undo());
                Expect.equal("the latest first", left + 1, x.hour());
            }
            Expect.state("not the ninth", x::undo);
            Expect.equal("the first change stays", 1, x.hour());
        });
        String rest = "Undo does not affect the input buffer, the error position, the index of the"
            + " failed command, the formatted line, or the saved copy.";
        s.test(rest, () -> {
            MailOffice x = Offices.after("hours 1");
            Offices.type(x, "hours 2");
            x.undo();
            Expect.equal("the buffer", 8, x.append('3'));
            Expect.equal("its contents", 1, x.run());
            Expect.equal("hours 23", 23, x.hour());
            x.undo();
            Expect.equal("the buffer of an undone run stays empty", 1, x.append('s'));
        });
        s.test(rest, () -> {
            MailOffice x = Offices.after("priority 1 1");
            x.sortAll();
            Offices.type(x, "sort;x");
            Expect.argument("malformed", x::run);
            Offices.type(x, "sort;sort;pull 0");
            Expect.state("failed", x::run);
            x.formatLetter(0);
            x.undo();
            x.undo();
            Expect.equal("the error position", 5, x.errorPosition());
            Expect.equal("the failed command", 2, x.failedCommand());
            Expect.equal("the line", "P0:0001 1g", lineOf(x, 10));
        });
        s.test(rest, () -> {
            MailOffice x = Offices.after("priority 1 1");
            x.accept(2, 2, false);
            x.save();
            x.undo();
            x.undo();
            Expect.equal("the saved copy", 2, x.restore());
            x.accept(3, 3, true);
            x.undo();
            x.accept(4, 4, true);
            Expect.equal("the saved copy again", 2, x.restore());
        });
    }

    /** The line as it stands, without formatting a letter. */
    private static String lineOf(MailOffice x, int length) {
        StringBuilder line = new StringBuilder();
        for (int index = 0; index < length; index++) {
            line.append(x.lineChar(index));
        }
        Expect.index("the end of the line", () -> x.lineChar(length));
        return line.toString();
    }

    private static void everyChange() {
        MailOffice x = Offices.after("prefix 1 0;standard 1000 5;standard 1000 5;sort 0");
        undone(x, "accept", () -> x.accept(5, 5, true));
        undone(x, "addPrefix", () -> x.addPrefix(12, 2, 4));
        undone(x, "removePrefix", () -> x.removePrefix(1, 1));
        undone(x, "sort", () -> x.sort(1));
        undone(x, "sortAll", x::sortAll);
        undone(x, "place", () -> x.place(1, 5));
        undone(x, "pull", () -> x.pull(0));
        undone(x, "setCutoff", () -> x.setCutoff(1, 1));
        undone(x, "setDeparture", () -> x.setDeparture(1, 1));
        undone(x, "pass", () -> x.pass(30));
        Offices.type(x, "pull 0;priority 3 3;hours 9;unprefix 1");
        undone(x, "run", x::run);
    }

    private static void undone(MailOffice x, String what, Expect.Call change) {
        String before = Offices.picture(x);
        Object answer = Expect.outcome(change);
        Expect.equal(what + " returns: " + answer, false, answer instanceof RuntimeException);
        Expect.equal(what + " is a change", 2, x.undoableCount());
        Expect.equal(what + " has an effect", false, before.equals(Offices.picture(x)));
        Expect.equal(what + " is undone", 1, x.undo());
        Expect.equal(what + " has no effect any more", before, Offices.picture(x));
        Expect.equal("the next id after " + what, 2, x.accept(1, 1, false));
        x.undo();
    }

    private static void undo(Sentences s) {
        s.under("Promise 62: undoableCount");
        s.test("Returns the number, 0 to 8.", () -> {
            MailOffice x = new MailOffice();
            Expect.equal("new", 0, x.undoableCount());
            for (int change = 1; change <= 20; change++) {
                x.setCutoff(0, change);
                Expect.equal("after " + change, Math.min(change, 8), x.undoableCount());
            }
        });
        s.under("Promise 63: undo");
        s.test("Undoes the latest change that has not been undone.", () -> {
            MailOffice x = Offices.withGoneLetters();
            Offices.run(x, "cutoff 1 7;departure 4 11;prefix 12 5;place 2 3");
            x.pass(47);
            String before = Offices.picture(x);
            x.pass(48);
            x.undo();
            Expect.equal("everything is as it was", before, Offices.picture(x));
        });
        s.test("Undoes the latest change that has not been undone.", () -> {
            MailOffice x = new MailOffice();
            x.setCutoff(0, 1);
            x.setCutoff(0, 2);
            x.setCutoff(0, 3);
            x.undo();
            Expect.equal("the third", 2, x.cutoff(0));
            x.undo();
            Expect.equal("not the third again", 1, x.cutoff(0));
            x.setCutoff(0, 4);
            x.undo();
            Expect.equal("the fourth", 1, x.cutoff(0));
            x.undo();
            Expect.equal("the first", 24, x.cutoff(0));
        });
        s.test("Returns the number of changes that can still be undone.", () -> {
            MailOffice x = new MailOffice();
            for (int change = 0; change < 10; change++) {
                x.pass(1);
            }
            for (int left = 7; left >= 0; left--) {
                Expect.equal("answer", left, x.undo());
                Expect.equal("as undoableCount says", left, x.undoableCount());
            }
        });
        s.test("Throws `IllegalStateException` if no change can be undone", () -> {
            MailOffice x = new MailOffice();
            Expect.state("new", x::undo);
            x.pass(5);
            Expect.equal("one", 0, x.undo());
            Expect.state("it was the only one", x::undo);
            Expect.equal("nothing more is undone", 0, x.hour());
            Expect.argument("refused", () -> x.pass(49));
            Expect.state("a refused call is no change", x::undo);
            x.save();
            Expect.state("save is no change", x::undo);
            x.pass(5);
            x.restore();
            Expect.state("after a restore", x::undo);
        });
    }

    private static void save(Sentences s) {
        s.under("Promise 64: save");
        String everything = "Saves a copy of everything that changes can change, replacing an"
            + " earlier copy.";
        s.test(everything, () -> {
            MailOffice x = Offices.withGoneLetters();
            Expect.equal("a run keeps the day", 2, x.day());
            Offices.run(x, "cutoff 1 7;cutoff 5 3;departure 4 11;prefix 12 5;place 2 3");
            String saved = Offices.picture(x);
            x.save();
            Offices.run(x, "pull 2;pull 3;unprefix 1;cutoff 1 8;departure 4 1;hours 40");
            Offices.run(x, "priority 5 5;place 4 1;hours 24;unprefix 12");
            x.restore();
            Expect.equal("everything", saved, Offices.picture(x));
            Expect.equal("the next id", 4, x.accept(1, 1, true));
        });
        s.test(everything, () -> {
            MailOffice x = new MailOffice();
            for (int id = 0; id < 3; id++) {
                Expect.equal("letters", id, x.save());
                x.accept(1, 1, true);
            }
            Expect.equal("the latest copy", 2, x.restore());
        });
        s.test("Returns the number of letters in the office.", () -> {
            MailOffice x = new MailOffice();
            Expect.equal("empty", 0, x.save());
            Offices.accept(x, 20, 1, 1);
            x.place(3, 3);
            Expect.equal("full", 20, x.save());
        });
    }

    private static void restore(Sentences s) {
        s.under("Promise 65: restore");
        s.test("Restores the saved copy, which stays available.", () -> {
            MailOffice x = Offices.withGoneLetters();
            x.save();
            String saved = Offices.picture(x);
            for (int turn = 0; turn < 3; turn++) {
                Offices.run(x, "pull 3;unprefix 1;cutoff 0 0;departure 0 3;place 2 4;hours 5");
                x.restore();
                Expect.equal("turn " + turn, saved, Offices.picture(x));
            }
        });
        s.test("No changes can be undone afterwards.", () -> {
            MailOffice x = new MailOffice();
            x.pass(1);
            x.save();
            for (int change = 0; change < 9; change++) {
                x.pass(1);
            }
            x.restore();
            Expect.equal("none", 0, x.undoableCount());
            Expect.state("none", x::undo);
            x.pass(1);
            Expect.equal("but the next change", 0, x.undo());
            Expect.equal("back to the copy", 1, x.hour());
        });
        s.test("Returns the number of letters in the office.", () -> {
            MailOffice x = new MailOffice();
            x.save();
            Offices.accept(x, 3, 1, 1);
            Expect.equal("after it", 0, x.restore());
            Offices.accept(x, 20, 1, 1);
            x.save();
            Expect.equal("full", 20, x.restore());
        });
        s.test("Throws `IllegalStateException` if there is no saved copy", () -> {
            MailOffice x = new MailOffice();
            Expect.state("new", x::restore);
            x.pass(1);
            Expect.state("not saved", x::restore);
            Expect.equal("nothing happened", "1 1", x.hour() + " " + x.undoableCount());
            x.save();
            Expect.equal("saved", 0, x.restore());
            x.pass(1);
            Expect.equal("saved and restored before", 0, x.restore());
        });
    }
}
