import java.util.ArrayList;
import java.util.List;
import java.util.Random;

/**
 * Long runs of calls on MailOffice and on PlainOffice at once, the same in every test run.
 * One object gets more calls than the 512 of the document here: the class knows no such limit.
 */
final class RandomRunsTest {
    private static final int RUNS = 300;
    private static final int CALLS = 400;

    private final Random random;
    private final MailOffice real = new MailOffice();
    private PlainOffice plain = new PlainOffice();
    /** The changes that made the plain office, and how many of them can be undone. */
    private List<PlainOffice.Change> done = new ArrayList<>();
    private List<PlainOffice.Change> saved = null;
    private int undoable = 0;
    private final StringBuilder log = new StringBuilder();

    private RandomRunsTest(long seed) {
        random = new Random(seed);
    }

    public static void main(String[] args) {
        int runs = args.length > 0 ? Integer.parseInt(args[0]) : RUNS;
        for (int seed = 1; seed <= runs; seed++) {
            new RandomRunsTest(seed).go();
        }
        Expect.finish("RandomRunsTest");
    }

    private void go() {
        int calls = 0;
        while (calls < CALLS) {
            calls++;
            step(random.nextInt(100));
            compareNumbers();
            if (random.nextInt(8) == 0) {
                compareLetters();
                compareRoutes();
            }
        }
        compareCodes();
    }

    private int upTo(int greatest) {
        return random.nextInt(greatest + 1);
    }

    private int around(int least, int greatest) {
        return random.nextInt(25) == 0 ? (random.nextBoolean() ? least - 1 : greatest + 1)
            : least + upTo(greatest - least);
    }

    /** Few codes, so that letters meet prefixes often. */
    private int code() {
        int[] codes = {0, 7, 70, 76, 700, 1000, 1200, 1230, 1234, 1299, 9999, -1, 10000};
        return random.nextInt(3) == 0 ? upTo(9999) : codes[random.nextInt(codes.length)];
    }

    private int[] prefix() {
        int[][] prefixes = {{0, 1}, {0, 2}, {7, 3}, {76, 4}, {1, 1}, {12, 2}, {123, 3}, {1234, 4},
            {9, 1}, {99, 2}, {10, 1}, {-1, 2}, {0, 0}, {0, 5}};
        int length = 1 + upTo(3);
        return random.nextInt(4) == 0 ? new int[] {upTo(9999) % (int) Math.pow(10, length), length}
            : prefixes[random.nextInt(prefixes.length)];
    }

    private int id() {
        if (plain.present.isEmpty() || random.nextInt(10) == 0) {
            return around(0, plain.nextId);
        }
        List<Integer> ids = new ArrayList<>(plain.present.keySet());
        return ids.get(random.nextInt(ids.size()));
    }

    private void step(int kind) {
        int id = id();
        int route = around(0, 5);
        int[] p = prefix();
        if (kind < 22) {
            int code = code();
            int weight = random.nextBoolean() ? 50 : around(1, 50);
            boolean priority = random.nextBoolean();
            change("accept " + code + " " + weight + " " + priority,
                () -> real.accept(code, weight, priority), o -> o.accept(code, weight, priority));
        } else if (kind < 32) {
            change("addPrefix " + p[0] + " " + p[1] + " " + route,
                () -> real.addPrefix(p[0], p[1], route), o -> o.addPrefix(p[0], p[1], route));
        } else if (kind < 35) {
            change("removePrefix " + p[0] + " " + p[1],
                () -> real.removePrefix(p[0], p[1]), o -> o.removePrefix(p[0], p[1]));
        } else if (kind < 44) {
            change("sort " + id, () -> real.sort(id), o -> o.sort(id));
        } else if (kind < 48) {
            change("sortAll", real::sortAll, PlainOffice::sortAll);
        } else if (kind < 60) {
            change("place " + id + " " + route,
                () -> real.place(id, route), o -> o.place(id, route));
        } else if (kind < 64) {
            change("pull " + id, () -> real.pull(id), o -> o.pull(id));
        } else {
            stepInTime(kind, route);
        }
    }

    private void stepInTime(int kind, int route) {
        int hour = around(0, 24);
        int hours = random.nextInt(3) == 0 ? around(1, 48) : 1 + upTo(5);
        if (kind < 68) {
            change("setCutoff " + route + " " + hour,
                () -> real.setCutoff(route, hour), o -> o.setCutoff(route, hour));
        } else if (kind < 72) {
            change("setDeparture " + route + " " + hour,
                () -> real.setDeparture(route, hour), o -> o.setDeparture(route, hour));
        } else if (kind < 78) {
            change("pass " + hours, () -> real.pass(hours), o -> o.pass(hours));
        } else if (kind < 88) {
            runProgram();
        } else if (kind < 97) {
            undo();
        } else if (kind < 99) {
            log.append("save\n");
            saved = new ArrayList<>(done);
            same("save", plain.present.size(), real.save());
        } else {
            restore();
        }
    }

    /** The same call on both; a call that returns normally is a change. */
    private void change(String name, Expect.Call call, PlainOffice.Change change) {
        log.append(name).append('\n');
        Object want = Expect.outcome(() -> change.doOn(plain));
        same(name, want, Expect.outcome(call));
        if (want instanceof Integer) {
            done.add(change);
            undoable = Math.min(8, undoable + 1);
        } else {
            plain = PlainOffice.after(done);
        }
    }

    private void same(String name, Object want, Object got) {
        Object due = want instanceof Exception ? want.getClass() : want;
        Object given = got instanceof Exception ? got.getClass() : got;
        if (!due.equals(given)) {
            System.out.println(log);
        }
        Expect.equal(name, due, given);
    }

    private void undo() {
        log.append("undo\n");
        if (undoable == 0) {
            Expect.state("undo", real::undo);
            return;
        }
        undoable--;
        done.remove(done.size() - 1);
        plain = PlainOffice.after(done);
        same("undo", undoable, real.undo());
    }

    private void restore() {
        log.append("restore\n");
        if (saved == null) {
            Expect.state("restore", real::restore);
            return;
        }
        done = new ArrayList<>(saved);
        undoable = 0;
        plain = PlainOffice.after(done);
        same("restore", plain.present.size(), real.restore());
    }

    private void runProgram() {
        StringBuilder text = new StringBuilder();
        List<PlainOffice.Change> commands = new ArrayList<>();
        for (int count = 1 + upTo(3); count > 0; count--) {
            String before = text.toString();
            text.append(text.length() == 0 ? "" : ";").append(command(commands));
            if (text.length() > 60) {
                text = new StringBuilder(before);
                commands.remove(commands.size() - 1);
            }
        }
        Offices.type(real, text.toString());
        PlainOffice.Change all = o -> {
            for (PlainOffice.Change command : commands) {
                command.doOn(o);
            }
            return commands.size();
        };
        log.append("run ").append(text).append('\n');
        Object want = Expect.outcome(() -> all.doOn(PlainOffice.after(done)));
        if (want instanceof Integer) {
            change(text.toString(), real::run, all);
            return;
        }
        int failed = 0;
        PlainOffice trial = PlainOffice.after(done);
        while (succeeds(commands.get(failed), trial)) {
            failed++;
        }
        same("run", new IllegalStateException(), Expect.outcome(real::run));
        same("failedCommand", failed, real.failedCommand());
    }

    private static boolean succeeds(PlainOffice.Change command, PlainOffice office) {
        return Expect.outcome(() -> command.doOn(office)) instanceof Integer;
    }

    private String command(List<PlainOffice.Change> commands) {
        int id = Math.min(99, Math.max(0, id()));
        int route = upTo(5);
        int number = random.nextInt(20) == 0 ? upTo(99) : 1 + upTo(23);
        int length = 1 + upTo(3);
        int digits = random.nextInt(12) * 11 % (int) Math.pow(10, length);
        String code = PlainOffice.text(digits, length);
        switch (random.nextInt(11)) {
            case 0:
                commands.add(o -> o.accept(digits, number, true));
                return "priority " + code + " " + number;
            case 1:
                commands.add(o -> o.accept(digits, number, false));
                return "standard " + code + " " + number;
            case 2:
                commands.add(o -> o.addPrefix(digits, length, route));
                return "prefix " + code + " " + route;
            case 3:
                commands.add(o -> o.removePrefix(digits, length));
                return "unprefix " + code;
            case 4:
                commands.add(PlainOffice::sortAll);
                return "sort";
            case 5:
                commands.add(o -> o.sort(id));
                return "sort " + id;
            case 6:
                commands.add(o -> o.place(id, route));
                return "place " + id + " " + route;
            case 7:
                commands.add(o -> o.pull(id));
                return "pull " + id;
            case 8:
                commands.add(o -> o.setCutoff(route, number));
                return "cutoff " + route + " " + number;
            case 9:
                commands.add(o -> o.setDeparture(route, number));
                return "departure " + route + " " + number;
            default:
                commands.add(o -> o.pass(number));
                return "hours " + number;
        }
    }

    private void compareNumbers() {
        same("12", plain.hours % 24, real.hour());
        same("13", plain.hours / 24, real.day());
        same("14", plain.present.size(), real.letterCount());
        same("30", plain.table.size(), real.prefixCount());
        same("50", plain.delivered, real.deliveredCount());
        same("51", plain.dead, real.deadCount());
        same("52", plain.returned, real.returnCount());
        same("55", true, real.isConsistent());
        same("62", undoable, real.undoableCount());
        StringBuilder tray = new StringBuilder();
        for (PlainOffice.Item item : plain.tray()) {
            tray.append(tray.length() == 0 ? "" : " ").append(item.id);
        }
        same("29", tray.toString(), Offices.tray(real));
    }

    private void compareLetters() {
        int late = 0;
        int wrong = 0;
        int position = 0;
        for (PlainOffice.Item item : plain.present.values()) {
            int id = item.id;
            same("16", id, real.idAt(position++));
            same("56", plain.line(id), Offices.line(real, id));
            same("24", plain.missorted(item), real.isMissorted(id));
            Object due = Expect.outcome(() -> plain.hoursToDelivery(id));
            same("44", due, Expect.outcome(() -> real.hoursToDelivery(id)));
            same("45", due, Expect.outcome(() -> real.hoursToDeliveryByHours(id)));
            boolean can = succeeds(o -> o.sort(id), PlainOffice.after(done));
            same("25", can, real.canSort(id));
            String prefix = plain.match(item.code);
            wrong += plain.missorted(item) ? 1 : 0;
            late += prefix != null && plain.whereabouts(item) == null && !item.priority
                && plain.hours % 24 >= plain.cutoffs[plain.table.get(prefix)] ? 1 : 0;
        }
        same("27", late, real.lateCount());
        same("49", wrong, real.missortedCount());
        same("26", PlainOffice.after(done).sortAll(), real.sortableCount());
        if (position > 0) {
            double sum = PlainOffice.weight(plain.present.values());
            same("53", sum / position, real.meanWeight());
        }
        if (plain.nextId > 0) {
            same("54", (float) plain.delivered / plain.nextId, real.deliveredShare());
        }
    }

    private void compareRoutes() {
        int[] ranks = plain.routesByWeight();
        for (int route = 0; route < 6; route++) {
            List<List<PlainOffice.Item>> bags = plain.bags.get(route);
            same("48", ranks[route], real.routeByWeight(route));
            same("36", bags.size(), real.bagCount(route));
            same("39", plain.weightOfRoute(route), real.routeWeight(route));
            same("40", plain.weightOfRoute(route), real.routeWeightByBags(route));
            same("46", 450 - plain.weightOfRoute(route), real.freeWeight(route));
            same("43", plain.untilDeparture(route), real.hoursToDeparture(route));
            int fullest = 0;
            for (int bag = 0; bag < bags.size(); bag++) {
                same("37", PlainOffice.weight(bags.get(bag)), real.bagWeight(route, bag));
                same("38", bags.get(bag).size(), real.lettersInBag(route, bag));
                fullest = PlainOffice.weight(bags.get(bag)) > PlainOffice.weight(bags.get(fullest))
                    ? bag : fullest;
            }
            if (!bags.isEmpty()) {
                same("47", fullest, real.fullestBag(route));
            }
        }
    }

    private void compareCodes() {
        int[] counts = plain.codesByRoute();
        for (int route = 0; route < 6; route++) {
            same("35", counts[route], real.codesOf(route));
        }
        for (int code = -1; code <= 10000; code += 7) {
            int asked = code;
            Object due = Expect.outcome(() -> plain.routeFor(asked));
            same("32", due, Expect.outcome(() -> real.routeFor(asked)));
            same("33", due, Expect.outcome(() -> real.routeForByTree(asked)));
        }
    }
}
