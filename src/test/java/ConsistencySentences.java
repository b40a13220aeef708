import java.lang.reflect.Field;
import java.util.List;

/**
 * The check of the office, promise 55. No call can make an office inconsistent, so these tests do
 * it through the private fields of MailOffice; they change with its inside.
 */
final class ConsistencySentences {
    private ConsistencySentences() {
    }

    static void test(Sentences s) {
        s.under("Promise 55: isConsistent");
        String checks = "Checks the office: routeFor and routeForByTree agree for the codes of all"
            + " letters in the office, routeWeight and routeWeightByBags agree for all routes, no"
            + " bag is heavier than 150 grams, and the accepted letters are the letters in the"
            + " office, the delivered letters and the dead letters together.";
        s.test(checks, ConsistencySentences::routesAgree);
        s.test(checks, ConsistencySentences::weightsAgree);
        s.test(checks, ConsistencySentences::noBagIsTooHeavy);
        s.test(checks, ConsistencySentences::lettersAddUp);
        s.test("Returns true if all these checks succeed.", ConsistencySentences::soundOffices);
    }

    /** A prefix that is there twice has two routes: each way to look for it finds another. */
    private static void routesAgree() {
        MailOffice x = Offices.after("prefix 12 0;standard 3000 5;standard 1300 5");
        prefixes(x).add(prefixes(Offices.after("prefix 12 5")).get(0));
        Expect.equal("the ways differ", true, x.routeFor(1200) != x.routeForByTree(1200));
        Expect.equal("for no code of a letter", true, x.isConsistent());
        for (int code : new int[] {1200, 1299}) {
            x.accept(code, 5, true);
            Expect.equal("for the last letter's code", false, x.isConsistent());
            x.place(2, 3);
            Expect.equal("for the code of a letter in a bag", false, x.isConsistent());
            x.undo();
            x.undo();
        }
        MailOffice first = new MailOffice();
        first.accept(1200, 5, true);
        first.accept(3000, 5, true);
        first.addPrefix(12, 2, 0);
        prefixes(first).add(prefixes(Offices.after("prefix 12 5")).get(0));
        Expect.equal("for the first letter's code", false, first.isConsistent());
    }

    /** A letter in a bag that the route does not have is missed bag by bag. */
    private static void weightsAgree() {
        for (int route = 0; route < 6; route++) {
            MailOffice x = new MailOffice();
            x.accept(1000, 1, true);
            x.place(0, route);
            Expect.equal("in bag 0 of " + route, true, x.isConsistent());
            set(letters(x).get(0), "bag", 1);
            Expect.equal("a gram differs", 1, x.routeWeight(route) - x.routeWeightByBags(route));
            Expect.equal("in no bag of " + route, false, x.isConsistent());
        }
    }

    private static void noBagIsTooHeavy() {
        for (int bag = 0; bag < 3; bag++) {
            MailOffice x = Offices.withFullRoute();
            x.accept(1000, 1, true);
            x.place(9, 5);
            Expect.equal("150 grams", true, x.isConsistent());
            set(letters(x).get(9), "route", 0);
            set(letters(x).get(9), "bag", bag);
            Expect.equal("the weights agree", x.routeWeight(0), x.routeWeightByBags(0));
            Expect.equal("151 grams", 151, x.bagWeight(0, bag));
            Expect.equal("151 grams in bag " + bag, false, x.isConsistent());
        }
        MailOffice last = new MailOffice();
        Offices.accept(last, 4, 1, 50);
        for (int id = 0; id < 4; id++) {
            last.place(id, 5);
        }
        set(letters(last).get(3), "bag", 0);
        Expect.equal("200 grams in the last route", false, last.isConsistent());
    }

    private static void lettersAddUp() {
        for (String count : new String[] {"delivered", "dead", "nextId"}) {
            for (int wrong : new int[] {0, 2}) {
                MailOffice x = Offices.withGoneLetters();
                int right = count.equals("nextId") ? 4 : 1;
                set(office(x), count, right + wrong - 1);
                Expect.equal(count + " is not " + right, false, x.isConsistent());
                set(office(x), count, right);
                Expect.equal(count + " is " + right, true, x.isConsistent());
            }
        }
        MailOffice lost = Offices.withGoneLetters();
        letters(lost).remove(1);
        Expect.equal("a letter is lost", false, lost.isConsistent());
    }

    private static void soundOffices() {
        Expect.equal("new", true, new MailOffice().isConsistent());
        Expect.equal("full table", true, Offices.withFullTable().isConsistent());
        Expect.equal("full bags", true, Offices.withFullRoute().isConsistent());
        MailOffice x = new MailOffice();
        Offices.accept(x, 20, 1000, 50);
        Expect.equal("full, without routes", true, x.isConsistent());
        Offices.run(x, "prefix 1 0;prefix 10 1;prefix 100 2;prefix 1000 3");
        Offices.run(x, "sort;place 19 0");
        Expect.equal("in bags", true, x.isConsistent());
        x.pass(48);
        Expect.equal("departed", true, x.isConsistent());
        x.undo();
        Expect.equal("undone", true, x.isConsistent());
    }

    private static Object office(MailOffice x) {
        return get(x, "office");
    }

    @SuppressWarnings("unchecked")
    private static List<Object> letters(MailOffice x) {
        return (List<Object>) get(office(x), "letters");
    }

    @SuppressWarnings("unchecked")
    private static List<Object> prefixes(MailOffice x) {
        return (List<Object>) get(get(office(x), "table"), "prefixes");
    }

    private static Object get(Object owner, String field) {
        try {
            return opened(owner, field).get(owner);
        } catch (ReflectiveOperationException missing) {
            throw new IllegalStateException(missing);
        }
    }

    private static void set(Object owner, String field, int value) {
        try {
            opened(owner, field).setInt(owner, value);
        } catch (ReflectiveOperationException missing) {
            throw new IllegalStateException(missing);
        }
    }

    private static Field opened(Object owner, String field) throws NoSuchFieldException {
        Field opened = owner.getClass().getDeclaredField(field);
        opened.setAccessible(true);
        return opened;
    }
}
