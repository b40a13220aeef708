/** Promises 62 to 65: undo, save and restore. */
final class UndoTest {
    private UndoTest() {
    }

    public static void main(String[] args) {
        copiesHoldEverything();
        changesWithoutEffect();
        atMostEight();
        failedCallsAreNoChanges();
        questionsAreNoChanges();
        runIsOneChange();
        undoLeavesTheRest();
        save();
        restore();
        restoreEndsUndo();
        savedCopyStays();
        Expect.finish("UndoTest");
    }

    private static MailOffice busy() {
        return Offices.after("prefix 1 0;standard 1000 5;priority 2 9;standard 1001 5",
            "sort 0;place 1 3;hours 2");
    }

    /** An office in which nothing is as it was at first. */
    private static MailOffice veteran() {
        return Offices.after("prefix 1 0;standard 1000 5;sort", "priority 5 5;place 1 2;hours 6",
            "place 1 2;hours 24;place 1 2;hours 24", "cutoff 1 7;cutoff 5 3;departure 4 11",
            "standard 6 6;place 2 4;standard 7 7;place 3 3");
    }

    private static void copiesHoldEverything() {
        MailOffice x = veteran();
        x.sortAll();
        x.undo();
        Expect.equal("63 cutoffs", "7 3", x.cutoff(1) + " " + x.cutoff(5));
        Expect.equal("63 departures", "11 6", x.departure(4) + " " + x.departure(5));
        Expect.equal("63 time", "2 6", x.day() + " " + x.hour());
        Expect.equal("63 delivered", 1, x.deliveredCount());
        Expect.equal("63 dead", 1, x.deadCount());
        Expect.equal("63 returns", 3, x.returnCount());
        Expect.equal("63 bags", "1 1", x.bagCount(3) + " " + x.bagCount(4));
        String before = Offices.picture(x);
        x.sortAll();
        x.undo();
        Expect.equal("63 after no effect", before, Offices.picture(x));
        x.save();
        Offices.run(x, "cutoff 1 8;departure 4 1;prefix 6 4;hours 40;cutoff 5 4");
        x.restore();
        Expect.equal("65 after many changes", before, Offices.picture(x));
        Expect.equal("55 after a restore", true, x.isConsistent());
        Offices.run(x, "sort;hours 48");
        x.undo();
        Expect.equal("63 after many hours", before, Offices.picture(x));
        Expect.equal("55 after an undo", true, x.isConsistent());
    }

    private static void changesWithoutEffect() {
        MailOffice x = new MailOffice();
        x.sortAll();
        x.setCutoff(0, 24);
        x.setDeparture(0, 6);
        Offices.run(x, "sort");
        Expect.equal("62 even without an effect", 4, x.undoableCount());
        Expect.equal("63", 3, x.undo());
    }

    private static void atMostEight() {
        MailOffice x = new MailOffice();
        for (int count = 1; count <= 8; count++) {
            x.pass(1);
            Expect.equal("62 grows", count, x.undoableCount());
        }
        x.pass(1);
        x.pass(1);
        Expect.equal("62 no more", 8, x.undoableCount());
        for (int left = 7; left >= 0; left--) {
            Expect.equal("63 left", left, x.undo());
            Expect.equal("63 latest first", left + 2, x.hour());
        }
        Expect.state("63 none left", x::undo);
        Expect.equal("63 unchanged", 2, x.hour());
        x.pass(1);
        Expect.equal("62 grows again", 1, x.undoableCount());
        Expect.state("63 new office", () -> new MailOffice().undo());
    }

    private static void failedCallsAreNoChanges() {
        MailOffice x = busy();
        int count = x.undoableCount();
        String before = Offices.picture(x);
        Expect.argument("2", () -> x.accept(-1, 1, true));
        Expect.state("3", () -> x.addPrefix(1, 1, 0));
        Expect.element("4", () -> x.removePrefix(2, 1));
        Expect.state("5", () -> x.sort(0));
        Expect.index("7", () -> x.place(2, 6));
        Expect.state("8", () -> x.pull(2));
        Expect.index("9", () -> x.setCutoff(6, 0));
        Expect.argument("10", () -> x.setDeparture(0, 24));
        Expect.argument("11", () -> x.pass(49));
        Expect.argument("59", x::run);
        Expect.equal("62 no changes", count, x.undoableCount());
        Expect.equal("63 nothing is changed", before, Offices.picture(x));
    }

    private static void questionsAreNoChanges() {
        MailOffice x = busy();
        int count = x.undoableCount();
        Offices.picture(x);
        x.sortableCount();
        x.hoursToDeliveryByHours(0);
        x.isConsistent();
        x.formatLetter(0);
        x.append('s');
        x.save();
        Expect.equal("62 no changes", count, x.undoableCount());
    }

    private static void runIsOneChange() {
        MailOffice x = new MailOffice();
        Offices.run(x, "priority 1 1;standard 2 2;hours 3");
        Expect.equal("62 one change", 1, x.undoableCount());
        Expect.equal("63 all at once", 0, x.undo());
        Expect.equal("63 letters", 0, x.letterCount());
        Expect.equal("63 hour", 0, x.hour());
    }

    private static void undoLeavesTheRest() {
        MailOffice x = new MailOffice();
        x.save();
        x.pass(3);
        Offices.type(x, "sort");
        x.undo();
        Expect.equal("63 the buffer stays", 5, x.append(';'));
        x.accept(1, 1, true);
        x.undo();
        Expect.equal("63 the saved copy stays", 0, x.restore());
        Expect.equal("65 the buffer stays", 6, x.append(';'));
    }

    private static void save() {
        MailOffice x = busy();
        String saved = Offices.picture(x);
        Expect.equal("64 letters", 3, x.save());
        Expect.equal("64 is no change", 2, x.undoableCount());
        Offices.run(x, "pull 0;unprefix 1;cutoff 2 2;departure 3 3;hours 7");
        Offices.run(x, "priority 4 4;prefix 9 5;place 2 5");
        Expect.equal("65 letters", 3, x.restore());
        Expect.equal("65 everything", saved, Offices.picture(x));
        Expect.equal("65 takes the next id back", 3, x.accept(1, 1, true));
    }

    private static void restore() {
        MailOffice x = new MailOffice();
        Expect.state("65 no copy", x::restore);
        x.accept(1, 1, true);
        Expect.state("65 still no copy", x::restore);
        Expect.equal("65 no effect", 1, x.undoableCount());
        Expect.equal("64 one", 1, x.save());
        x.accept(1, 1, true);
        Expect.equal("64 replaces", 2, x.save());
        x.accept(1, 1, true);
        Expect.equal("65 the later copy", 2, x.restore());
    }

    private static void restoreEndsUndo() {
        MailOffice x = busy();
        x.save();
        x.pass(1);
        x.restore();
        Expect.equal("65 none can be undone", 0, x.undoableCount());
        Expect.state("65 none can be undone", x::undo);
        x.pass(1);
        Expect.equal("65 the next can", 0, x.undo());
        Expect.equal("65 back to the copy", 2, x.hour());
    }

    private static void savedCopyStays() {
        MailOffice x = busy();
        x.save();
        String saved = Offices.picture(x);
        for (int turn = 0; turn < 3; turn++) {
            Offices.run(x, "pull 0;pull 1;unprefix 1;cutoff 0 0;departure 0 3;hours 5");
            x.accept(7, 7, false);
            x.restore();
            Expect.equal("65 again", saved, Offices.picture(x));
        }
    }
}
