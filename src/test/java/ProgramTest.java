import java.util.regex.Matcher;
import java.util.regex.Pattern;

/** Promises 58 to 61: the input buffer and its programs. */
final class ProgramTest {
    private static final String COMMAND =
        "(?:(?:priority |standard )\\d{1,4} \\d{1,2}|prefix \\d{1,4} \\d|unprefix \\d{1,4}"
        + "|sort(?: \\d{1,2})?|place \\d{1,2} \\d|pull \\d{1,2}|cutoff \\d \\d{1,2}"
        + "|departure \\d \\d{1,2}|hours \\d{1,2})";
    private static final Pattern PROGRAM = Pattern.compile(COMMAND + "(?:;" + COMMAND + ")*");
    private static final String[] SAMPLES = {"priority 1234 56", "standard 7 5", "prefix 0076 3",
        "unprefix 12", "sort", "sort 12", "place 3 4", "pull 0", "cutoff 3 24", "departure 5 0",
        "hours 48", "sort;sort;sort 1", "pull 1;prefix 1 1", "hours 1;cutoff 1 1;unprefix 1"};

    private ProgramTest() {
    }

    public static void main(String[] args) {
        append();
        everyCommand();
        bufferIsEmptyAfterwards();
        allOrNothing();
        malformed();
        storedPositions();
        errorPositionsAgainstThePattern();
        longPrograms();
        Expect.finish("ProgramTest");
    }

    private static void append() {
        MailOffice x = new MailOffice();
        Expect.equal("58 least", 1, x.append(' '));
        Expect.equal("58 greatest", 2, x.append('~'));
        for (char wrong : new char[] {'\0', '\n', 31, 127, 160, 'ä', '\uffff'}) {
            Expect.argument("58 character " + (int) wrong, () -> x.append(wrong));
        }
        Expect.equal("58 unchanged", 3, x.append('x'));
        for (int count = 4; count <= 60; count++) {
            Expect.equal("58 counts", count, x.append('x'));
        }
        Expect.state("58 full", () -> x.append('x'));
        Expect.argument("58 argument first", () -> x.append('\n'));
        Expect.equal("58 no change", 0, x.undoableCount());
    }

    private static void everyCommand() {
        MailOffice x = new MailOffice();
        Expect.equal("59 kinds", 2, Offices.run(x, "priority 76 20;standard 9999 1"));
        Expect.equal("59 priority", true, x.isPriority(0));
        Expect.equal("59 leading zeros", 76, x.codeOf(0));
        Expect.equal("59 weight", 20, x.weightOf(0));
        Expect.equal("59 standard", false, x.isPriority(1));
        Expect.equal("59 prefix", 2, Offices.run(x, "prefix 007 3;prefix 9 1"));
        Expect.equal("59 digits of the prefix", true, x.hasPrefix(7, 3));
        Expect.equal("59 its route", 3, x.routeFor(76));
        Offices.run(x, "sort 1");
        Expect.equal("59 sort with a number", "0", Offices.tray(x));
        Offices.run(x, "sort");
        Expect.equal("59 sort", "", Offices.tray(x));
        Offices.run(x, "pull 1;place 1 4");
        Expect.equal("59 pull and place", 4, x.routeOfBag(1));
        Offices.run(x, "cutoff 4 12;departure 4 23");
        Expect.equal("59 cutoff", 12, x.cutoff(4));
        Expect.equal("59 departure", 23, x.departure(4));
        Offices.run(x, "hours 7");
        Expect.equal("59 hours", 7, x.hour());
        Expect.equal("59 one delivered", 1, x.deliveredCount());
        Offices.run(x, "unprefix 007");
        Expect.equal("59 unprefix", false, x.hasPrefix(7, 3));
        Expect.equal("59 two digits", 1, Offices.run(x, "pull 01"));
    }

    private static void bufferIsEmptyAfterwards() {
        MailOffice x = new MailOffice();
        Offices.run(x, "sort");
        Expect.equal("59 after success", 1, x.append('q'));
        Expect.argument("59 malformed", x::run);
        Expect.equal("59 after a malformed program", 1, x.append('s'));
        Offices.type(x, "ort 0");
        Expect.state("59 failed", x::run);
        Expect.equal("59 after a failed program", 1, x.append('s'));
    }

    private static void allOrNothing() {
        MailOffice x = Offices.after("prefix 1 0;standard 1000 5;standard 2 2;sort");
        String before = Offices.picture(x);
        Offices.type(x, "hours 9;priority 5 5;unprefix 1;pull 0;cutoff 0 1;pull 7");
        Expect.equal("59 the order of the run", 0, x.deliveredCount());
        Expect.state("59 the delivered letter is gone for the pull", x::run);
        Expect.equal("61", 3, x.failedCommand());
        Expect.equal("59 none is executed", before, Offices.picture(x));
        Expect.equal("59 no change", 1, x.undoableCount());
        Expect.equal("59 the id was not used", 2, x.accept(1, 1, true));
    }

    private static void malformed() {
        wrongAt("", 0);
        wrongAt("p", 1);
        wrongAt("pr", 2);
        wrongAt("pra", 2);
        wrongAt("px", 1);
        wrongAt("x", 0);
        wrongAt(" sort", 0);
        wrongAt("Sort", 0);
        wrongAt("sort ", 5);
        wrongAt("sort;", 5);
        wrongAt("sort;;", 5);
        wrongAt("sort; sort", 5);
        wrongAt("sorts", 4);
        wrongAt("sort  1", 5);
        wrongAt("sort 123", 7);
        wrongAt("sort -1", 5);
        wrongAt("priority", 8);
        wrongAt("priority  1 1", 9);
        wrongAt("priority 12345 1", 13);
        wrongAt("priority 1234", 13);
        wrongAt("priority 123;", 12);
        wrongAt("priority 1 ", 11);
        wrongAt("priority 1 123", 13);
        wrongAt("prefix 1", 8);
        wrongAt("prefix 1 12", 10);
        wrongAt("unprefix 12345", 13);
        wrongAt("unprefix 1 1", 10);
        wrongAt("place 123", 8);
        wrongAt("place 1 12", 9);
        wrongAt("pull x", 5);
        wrongAt("cutoff 12 1", 8);
        wrongAt("departure 1 1 ", 13);
        wrongAt("hours 1.", 7);
        wrongAt("stop", 2);
        wrongAt("plate", 3);
        wrongAt("hours 1;h", 9);
    }

    private static void wrongAt(String program, int position) {
        MailOffice x = new MailOffice();
        Offices.type(x, program);
        Expect.argument("59 '" + program + "'", x::run);
        Expect.equal("60 '" + program + "'", position, x.errorPosition());
        Expect.element("61 '" + program + "'", x::failedCommand);
    }

    private static void storedPositions() {
        MailOffice x = new MailOffice();
        Offices.type(x, "sort x");
        Expect.argument("59", x::run);
        Offices.type(x, "sort;pull 1");
        Expect.state("59", x::run);
        Offices.run(x, "sort;sort");
        x.undo();
        x.save();
        x.restore();
        Expect.equal("60 stays stored", 5, x.errorPosition());
        Expect.equal("61 stays stored", 1, x.failedCommand());
        Offices.type(x, "xx");
        Expect.argument("59", x::run);
        Offices.type(x, "pull 1");
        Expect.state("59", x::run);
        Expect.equal("60 the latest", 0, x.errorPosition());
        Expect.equal("61 the latest", 0, x.failedCommand());
    }

    /** Every sample with every character replaced, removed or put in, and cut off everywhere. */
    private static void errorPositionsAgainstThePattern() {
        for (String sample : SAMPLES) {
            for (int at = 0; at <= sample.length(); at++) {
                compare(sample.substring(0, at));
                for (char put : " ;0189abcdefhiloprstuxzS/:.".toCharArray()) {
                    compare(sample.substring(0, at) + put + sample.substring(at));
                    if (at < sample.length()) {
                        compare(sample.substring(0, at) + put + sample.substring(at + 1));
                        compare(sample.substring(0, at) + sample.substring(at + 1));
                    }
                }
            }
        }
    }

    private static void compare(String program) {
        MailOffice x = new MailOffice();
        Offices.type(x, program);
        Object outcome = Expect.outcome(x::run);
        if (PROGRAM.matcher(program).matches()) {
            boolean malformed = outcome instanceof IllegalArgumentException;
            Expect.equal("59 well-formed '" + program + "'", false, malformed);
            return;
        }
        Expect.equal("59 '" + program + "'", IllegalArgumentException.class, outcome.getClass());
        Expect.equal("60 '" + program + "'", firstWrong(program), x.errorPosition());
    }

    private static int firstWrong(String program) {
        for (int end = 1; end <= program.length(); end++) {
            Matcher begin = PROGRAM.matcher(program.substring(0, end));
            if (!begin.matches() && !begin.hitEnd()) {
                return end - 1;
            }
        }
        return program.length();
    }

    private static void longPrograms() {
        MailOffice x = new MailOffice();
        String twelve = "sort;sort;sort;sort;sort;sort;sort;sort;sort;sort;sort;sort";
        Expect.equal("59 twelve commands", 12, Offices.run(x, twelve));
        Expect.equal("59 one change", 1, x.undoableCount());
        Offices.type(x, twelve + ";");
        Expect.argument("59 the 60th is a semicolon", x::run);
        Expect.equal("60 its length", 60, x.errorPosition());
        String sixty = "standard 1 1;standard 2 2;standard 3 3;place 0 5;sort;pull 0";
        Expect.equal("59 60 characters are typed", 60, sixty.length());
        Expect.equal("59 60 characters", 6, Offices.run(x, sixty));
    }
}
