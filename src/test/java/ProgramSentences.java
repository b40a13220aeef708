/** The input buffer and its programs: the terms of commands, and promises 58 to 61. */
final class ProgramSentences {
    private static final String SORTS_59 =
        "sort;sort;sort;sort;sort;sort;sort;sort;sort;sort;sort;sort";

    private ProgramSentences() {
    }

    static void test(Sentences s) {
        s.under("Terms");
        grammar(s);
        words(s);
        errorPositions(s);
        append(s);
        run(s);
        runFails(s);
        stored(s);
    }

    /** The program is executed, or at least a command of it was tried. */
    private static void wellFormed(String program) {
        MailOffice x = new MailOffice();
        Offices.type(x, program);
        Object outcome = Expect.outcome(x::run);
        Expect.equal("'" + program + "' is well-formed: " + outcome, false,
            outcome instanceof IllegalArgumentException);
    }

    private static void malformed(String program, int position) {
        MailOffice x = new MailOffice();
        Offices.type(x, program);
        Expect.argument("'" + program + "' is malformed", x::run);
        Expect.equal("the error position of '" + program + "'", position, x.errorPosition());
    }

    private static void grammar(Sentences s) {
        s.test("The input buffer holds up to 60 characters.", () -> {
            MailOffice x = new MailOffice();
            for (int count = 1; count <= 60; count++) {
                Expect.equal("so many", count, x.append('s'));
            }
            Expect.state("the 61st", () -> x.append('s'));
            MailOffice y = Offices.after("priority 1 1");
            Offices.type(y, "standard 1 1;standard 2 2;standard 3 3;place 0 5;sort;pull 0");
            Expect.state("60 are there", () -> y.append('0'));
            Expect.equal("60 are run", 6, y.run());
            Expect.equal("the last of them", true, y.isInTray(0));
        });
        s.test("program = command { \";\" command }", () -> {
            wellFormed("sort");
            wellFormed("sort;sort 1");
            wellFormed(SORTS_59);
            malformed("", 0);
            malformed(";", 0);
            malformed("sort;", 5);
            malformed("sort;;sort", 5);
            malformed("sort,sort", 4);
            malformed("sort; sort", 5);
            malformed("sort sort", 5);
        });
        s.test("command = kind code \" \" number | \"prefix \" code \" \" digit | \"unprefix \""
            + " code | \"sort\" [ \" \" number ] | \"place \" number \" \" digit | \"pull \" number"
            + " | \"cutoff \" digit \" \" number | \"departure \" digit \" \" number | \"hours \""
            + " number", ProgramSentences::commands);
        s.test("kind = \"priority \" | \"standard \"", () -> {
            wellFormed("priority 1 1");
            wellFormed("standard 1 1");
            malformed("priority1 1", 8);
            malformed("standard", 8);
            malformed("prioritz 1 1", 7);
            malformed("standart 1 1", 7);
            malformed("1 1", 0);
        });
        s.test("code = digit [ digit ] [ digit ] [ digit ]", () -> {
            for (String code : new String[] {"0", "9", "00", "99", "000", "9999", "0000"}) {
                wellFormed("priority " + code + " 1");
                wellFormed("standard " + code + " 1");
                wellFormed("prefix " + code + " 1");
                wellFormed("unprefix " + code);
            }
            malformed("priority  1", 9);
            malformed("prefix  1", 7);
            malformed("unprefix ", 9);
            malformed("priority 00000 1", 13);
            malformed("standard 00000 1", 13);
            malformed("prefix 00000 1", 11);
            malformed("unprefix 00000", 13);
            malformed("unprefix 000/", 12);
            malformed("unprefix 000:", 12);
            malformed("unprefix a", 9);
        });
        s.test("number = digit [ digit ]", () -> {
            for (String program : new String[] {"priority 1 ", "standard 1 ", "sort ", "pull ",
                "cutoff 1 ", "departure 1 ", "hours "}) {
                wellFormed(program + "0");
                wellFormed(program + "99");
                malformed(program, program.length());
                malformed(program + "000", program.length() + 2);
                malformed(program + "-1", program.length());
                malformed(program + "1x", program.length() + 1);
            }
            wellFormed("place 0 1");
            wellFormed("place 99 1");
            malformed("place 000 1", 8);
            malformed("place  1", 6);
        });
    }

    private static void commands() {
        for (String program : new String[] {"priority 1 1", "standard 1 1", "prefix 1 0",
            "prefix 1 9", "unprefix 1", "sort", "sort 1", "place 1 0", "place 1 9", "pull 1",
            "cutoff 0 1", "cutoff 9 1", "departure 0 1", "departure 9 1", "hours 1"}) {
            wellFormed(program);
            malformed(program + " ", program.equals("sort") ? 5 : program.length());
            malformed(program + "x", program.length());
            malformed(" " + program, 0);
        }
        malformed("prefix 1 00", 10);
        malformed("place 1 00", 9);
        malformed("cutoff 00 1", 8);
        malformed("departure 00 1", 11);
        malformed("unprefix 1 1", 10);
        malformed("pull 1 1", 6);
        malformed("hours 1 1", 7);
        malformed("sort 1 1", 6);
        malformed("sort1", 4);
        malformed("priority 1", 10);
        malformed("prefix 1", 8);
        malformed("place 1", 7);
        malformed("cutoff 1", 8);
        malformed("departure 1", 11);
    }

    private static void words(Sentences s) {
        s.test("A command that begins with a kind accepts a letter with its code and weight; here a"
            + " code with fewer than four digits has leading zeros.", () -> {
                MailOffice x = Offices.after("priority 7 1;standard 70 9;priority 700 10",
                    "standard 7000 50;priority 0007 1;standard 0 1;priority 000 1");
                int[] codes = {7, 70, 700, 7000, 7, 0, 0};
                int[] weights = {1, 9, 10, 50, 1, 1, 1};
                for (int id = 0; id < codes.length; id++) {
                    Expect.equal("code of " + id, codes[id], x.codeOf(id));
                    Expect.equal("weight of " + id, weights[id], x.weightOf(id));
                    Expect.equal("kind of " + id, id % 2 == 0, x.isPriority(id));
                }
                x.addPrefix(7, 1, 0);
                Expect.equal("7 begins with 0", false, x.canSort(0));
            });
        s.test("In prefix and unprefix the code is the sequence of digits of the prefix.", () -> {
            MailOffice x = Offices.after("prefix 7 1;prefix 07 2;prefix 007 3;prefix 0007 4");
            for (int length = 1; length <= 4; length++) {
                Expect.equal("7 with the length " + length, true, x.hasPrefix(7, length));
            }
            Expect.equal("no leading zeros are added", 1, x.routeFor(7000));
            Offices.run(x, "unprefix 007;unprefix 7");
            Expect.equal("the first is gone", false, x.hasPrefix(7, 1));
            Expect.equal("the third is gone", false, x.hasPrefix(7, 3));
            Expect.equal("the others are left", 2, x.prefixCount());
        });
        s.test("\"sort\" without a number calls sortAll, and with a number it calls sort.", () -> {
            MailOffice x = Offices.after("prefix 1 0;standard 1000 5;standard 1000 5",
                "standard 1000 5;standard 2000 5;sort 1");
            Expect.equal("one", "0 2 3", Offices.tray(x));
            Offices.run(x, "sort 0");
            Expect.equal("letter 0 is a letter", "2 3", Offices.tray(x));
            Offices.run(x, "sort");
            Expect.equal("all that can be", "3", Offices.tray(x));
            Expect.equal("none, which is no failure", 1, Offices.run(x, "sort"));
            Offices.type(x, "sort 3");
            Expect.state("a letter without a route", x::run);
        });
        s.test("The other commands correspond to place, pull, setCutoff, setDeparture and pass,"
            + " with the arguments in the same order.", () -> {
                MailOffice x = Offices.after("standard 1 5;standard 1 5", "place 1 4;place 0 5");
                Expect.equal("place", "5 4", x.routeOfBag(0) + " " + x.routeOfBag(1));
                Offices.run(x, "pull 1;cutoff 3 24;cutoff 4 5;departure 5 2;departure 2 0");
                Offices.run(x, "hours 1");
                Expect.equal("pull", "1", Offices.tray(x));
                Expect.equal("cutoff", "24 5", x.cutoff(3) + " " + x.cutoff(4));
                Expect.equal("departure", "2 0", x.departure(5) + " " + x.departure(2));
                Expect.equal("hours", 1, x.hour());
                Offices.run(x, "hours 48");
                Expect.equal("two digits", 2, x.day());
            });
        s.test("Keywords are matched letter by letter.", () -> {
            malformed("pa", 1);
            malformed("pla", 3);
            malformed("plb", 2);
            malformed("prb", 2);
            malformed("prefi", 5);
            malformed("prefiy", 5);
            malformed("pulm", 3);
            malformed("so", 2);
            malformed("stort", 2);
            malformed("unprefix1", 8);
            malformed("unpriority 1 1", 4);
            malformed("Sort", 0);
            malformed("sORT", 1);
            malformed("hour 1", 4);
            malformed("cut 1", 3);
        });
    }

    private static void errorPositions(Sentences s) {
        String sentence = "The error position of a malformed program is the index of the first"
            + " character that no valid program can have there after the characters before it, or"
            + " the length of the program if it is a proper prefix of a valid program.";
        s.test(sentence, () -> {
            malformed("x", 0);
            malformed("9", 0);
            malformed("sorx", 3);
            malformed("sort;x", 5);
            malformed("hours 1;hours x;hours y", 14);
            malformed("pull 9;priority 99990 1", 20);
            malformed("place 1 1 ", 9);
            malformed(SORTS_59 + "~", 59);
        });
        s.test(sentence, () -> {
            String program = "priority 1234 50;sort 1;place 12 3;cutoff 4 24";
            for (int length = 0; length < program.length(); length++) {
                String part = program.substring(0, length);
                if (part.matches("(.*;)?(priority \\d+ \\d+|sort( \\d)?|place \\d+ \\d"
                    + "|cutoff \\d \\d)")) {
                    wellFormed(part);
                } else {
                    malformed(part, length);
                }
            }
            malformed(SORTS_59 + ";", 60);
        });
    }

    private static void append(Sentences s) {
        s.under("Promise 58: append");
        s.test("Throws `IllegalArgumentException` if the character is not in the range from ' ' to"
            + " '~'", () -> {
                MailOffice x = new MailOffice();
                for (char wrong : new char[] {' ' - 1, '~' + 1, 0, '\n', 128, 255, 256 + 'a',
                    Character.MAX_VALUE}) {
                    Expect.argument("character " + (int) wrong, () -> x.append(wrong));
                }
                Expect.equal("none came in; the least", 1, x.append(' '));
                Expect.equal("the greatest", 2, x.append('~'));
            });
        s.test("Throws `IllegalStateException` if the buffer contains 60 characters", () -> {
            MailOffice x = new MailOffice();
            Offices.type(x, SORTS_59);
            MailOffice full = new MailOffice();
            Offices.type(full, SORTS_59 + ";");
            Expect.equal("59 are not 60", 60, x.append(' '));
            Expect.state("60", () -> x.append('x'));
            Expect.state("60", () -> x.append(' '));
            Expect.argument("malformed", x::run);
            Expect.equal("empty again", 1, x.append('s'));
        });
        s.test("Returns the number of characters in the buffer.", () -> {
            MailOffice x = new MailOffice();
            Expect.equal("the first", 1, x.append('s'));
            Expect.argument("refused", () -> x.append('\n'));
            Expect.equal("the refused does not count", 2, x.append('o'));
        });
    }

    private static void run(Sentences s) {
        s.under("Promise 59: run");
        s.test("Either all commands are executed or none.", () -> {
            MailOffice x = Offices.after("prefix 1 0;standard 1000 5;standard 2 2;sort");
            String before = Offices.picture(x);
            for (String program : new String[] {"hours 9;priority 5 5;pull 0", "pull 0;pull 0",
                "unprefix 1;cutoff 0 1;departure 0 1;sort;sort 7", "pull 0;prefix 1 0",
                "priority 1 1;sort;place 1 3;hours 48;hours 49", "pull 0;sor",
                "pull 0;hours 1;x"}) {
                Offices.type(x, program);
                Object outcome = Expect.outcome(x::run);
                Expect.equal(program + " fails", true, outcome instanceof RuntimeException);
                Expect.equal("none of " + program, before, Offices.picture(x));
            }
            Expect.equal("all", 4, Offices.run(x, "pull 0;cutoff 0 1;departure 0 2;hours 1"));
            Expect.equal("the first", true, x.isInTray(0));
            Expect.equal("the second and the third", "1 2", x.cutoff(0) + " " + x.departure(0));
            Expect.equal("the last", 1, x.hour());
        });
        s.test("The buffer is empty afterwards, even if an exception is thrown.", () -> {
            MailOffice x = new MailOffice();
            Offices.run(x, "sort");
            Expect.equal("after a program", 1, x.append('x'));
            Expect.argument("malformed", x::run);
            Expect.equal("after a malformed program", 1, x.append('s'));
            Offices.type(x, "ort 0");
            Expect.state("failed", x::run);
            Expect.equal("after a failed program", 1, x.append('s'));
            Offices.type(x, SORTS_59.substring(1));
            Expect.equal("a full one but for one", 12, x.run());
            Expect.argument("nothing is left to run", x::run);
            Expect.equal("position", 0, x.errorPosition());
        });
        s.test("Returns the number of commands.", () -> {
            MailOffice x = new MailOffice();
            Expect.equal("one", 1, Offices.run(x, "hours 48"));
            Expect.equal("two", 2, Offices.run(x, "sort;sort"));
            Expect.equal("as many as there is room for", 12, Offices.run(x, SORTS_59));
        });
    }

    private static void runFails(Sentences s) {
        s.test("Throws `IllegalArgumentException` if the program is malformed; the error position"
            + " is stored", () -> {
                MailOffice x = new MailOffice();
                Expect.argument("empty", x::run);
                Expect.equal("stored", 0, x.errorPosition());
                Offices.type(x, "sort;hours 1;sort 1x");
                Expect.argument("malformed at its end", x::run);
                Expect.equal("stored", 19, x.errorPosition());
                Expect.element("no command failed", x::failedCommand);
                Expect.equal("no hour has passed", 0, x.hour());
            });
        s.test("Throws `IllegalStateException` if the method of a command throws an exception; the"
            + " index of this command, starting at 0, is stored", () -> {
                fails("priority 1 0", 0);
                fails("standard 1 51", 0);
                fails("sort;prefix 1 6", 1);
                fails("prefix 1 1;prefix 1 2", 1);
                fails("unprefix 1", 0);
                fails("sort;sort;sort 0", 2);
                fails("place 0 1", 0);
                fails("standard 1 1;place 0 6", 1);
                fails("standard 1 1;place 0 5;place 0 5", 2);
                fails("standard 1 1;pull 0", 1);
                fails("cutoff 6 1", 0);
                fails("cutoff 5 25", 0);
                fails("departure 6 1", 0);
                fails("departure 5 24", 0);
                fails("hours 0", 0);
                fails("hours 49", 0);
                fails("sort;sort;sort;sort;sort;sort;sort;sort;sort;sort;pull 0", 10);
                fails("pull 0;pull 1", 0);
            });
    }

    private static void fails(String program, int index) {
        MailOffice x = new MailOffice();
        Offices.type(x, program);
        Expect.state(program, x::run);
        Expect.equal("the failed command of " + program, index, x.failedCommand());
        Expect.element("no error position of " + program, x::errorPosition);
        Expect.equal("none of " + program, 0, x.letterCount() + x.prefixCount());
    }

    private static void stored(Sentences s) {
        s.under("Promise 60: errorPosition");
        s.test("Returns the error position of the latest malformed program.", () -> {
            MailOffice x = new MailOffice();
            for (String program : new String[] {"sort x", "sor", "x", "sort;sort;"}) {
                Offices.type(x, program);
                Expect.argument(program, x::run);
                Offices.run(x, "sort");
                Offices.type(x, "sort;sort 5");
                Expect.state("failed, not malformed", x::run);
                int due = program.equals("sort x") ? 5 : program.equals("x") ? 0 : program.length();
                Expect.equal(program, due, x.errorPosition());
            }
        });
        s.test("Throws `NoSuchElementException` if no program was malformed so far", () -> {
            MailOffice x = new MailOffice();
            Expect.element("new", x::errorPosition);
            Offices.run(x, "sort");
            Offices.type(x, "pull 0");
            Expect.state("failed", x::run);
            Expect.element("neither a program nor a failed one", x::errorPosition);
            Expect.argument("malformed at 0", x::run);
            Expect.equal("0 is a position", 0, x.errorPosition());
        });
        s.under("Promise 61: failedCommand");
        s.test("Returns the index of the latest command that failed.", () -> {
            MailOffice x = new MailOffice();
            String[] programs = {"sort;sort;pull 0", "pull 0", "sort;pull 0"};
            int[] due = {2, 0, 1};
            for (int i = 0; i < due.length; i++) {
                Offices.type(x, programs[i]);
                Expect.state(programs[i], x::run);
                Offices.run(x, "sort");
                Offices.type(x, "sort;x");
                Expect.argument("malformed, not failed", x::run);
                Expect.equal(programs[i], due[i], x.failedCommand());
            }
        });
        s.test("Throws `NoSuchElementException` if no command failed so far", () -> {
            MailOffice x = new MailOffice();
            Expect.element("new", x::failedCommand);
            Offices.run(x, "sort");
            Expect.argument("malformed", x::run);
            Expect.state("a call that fails is no command", () -> {
                x.accept(1, 1, true);
                return x.pull(0);
            });
            Expect.element("neither a program nor a malformed one", x::failedCommand);
            Offices.type(x, "pull 0");
            Expect.state("failed at 0", x::run);
            Expect.equal("0 is an index", 0, x.failedCommand());
        });
    }
}
