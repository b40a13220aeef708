import java.util.ArrayList;
import java.util.Comparator;
import java.util.List;
import java.util.NoSuchElementException;
import java.util.TreeMap;

/**
 * The office once more, told as plainly as the document tells it and with other means than
 * MailOffice: codes and prefixes are texts, bags are lists, and undo replays what was done before.
 */
final class PlainOffice {
    /** A change that can be done again on another office. */
    interface Change {
        int doOn(PlainOffice office);
    }

    static final class Item {
        int id;
        String code;
        int weight;
        boolean priority;
        int returns;
    }

    final TreeMap<Integer, Item> present = new TreeMap<>();
    final TreeMap<String, Integer> table = new TreeMap<>();
    final List<List<List<Item>>> bags = new ArrayList<>();
    final int[] cutoffs = {24, 24, 24, 24, 24, 24};
    final int[] departures = {6, 6, 6, 6, 6, 6};
    int hours = 0;
    int nextId = 0;
    int delivered = 0;
    int dead = 0;
    int returned = 0;

    PlainOffice() {
        for (int route = 0; route < 6; route++) {
            bags.add(new ArrayList<>());
        }
    }

    static PlainOffice after(List<Change> changes) {
        PlainOffice office = new PlainOffice();
        for (Change change : changes) {
            change.doOn(office);
        }
        return office;
    }

    static String text(int digits, int length) {
        if (length < 1 || length > 4 || digits < 0 || String.valueOf(digits).length() > length) {
            throw new IllegalArgumentException();
        }
        return String.format("%0" + length + "d", digits);
    }

    static void route(int route) {
        if (route < 0 || route > 5) {
            throw new IndexOutOfBoundsException();
        }
    }

    static void range(boolean good) {
        if (!good) {
            throw new IllegalArgumentException();
        }
    }

    static void state(boolean good) {
        if (!good) {
            throw new IllegalStateException();
        }
    }

    static void element(boolean good) {
        if (!good) {
            throw new NoSuchElementException();
        }
    }

    Item item(int id) {
        element(present.containsKey(id));
        return present.get(id);
    }

    int accept(int code, int weight, boolean priority) {
        range(code >= 0 && code <= 9999 && weight >= 1 && weight <= 50);
        state(present.size() < 20);
        Item item = new Item();
        item.id = nextId++;
        item.code = text(code, 4);
        item.weight = weight;
        item.priority = priority;
        present.put(item.id, item);
        return item.id;
    }

    int addPrefix(int digits, int length, int route) {
        String prefix = text(digits, length);
        route(route);
        state(table.size() < 12 && !table.containsKey(prefix));
        table.put(prefix, route);
        return table.size();
    }

    int removePrefix(int digits, int length) {
        Integer route = table.remove(text(digits, length));
        element(route != null);
        return route;
    }

    /** The longest prefix of a code, or null. */
    String match(String code) {
        for (int length = 4; length > 0; length--) {
            if (table.containsKey(code.substring(0, length))) {
                return code.substring(0, length);
            }
        }
        return null;
    }

    int routeFor(int code) {
        String prefix = match(text(code, 4));
        element(prefix != null);
        return table.get(prefix);
    }

    /** Where a letter is: the route and the bag, or null in the tray. */
    int[] whereabouts(Item item) {
        for (int route = 0; route < 6; route++) {
            for (int bag = 0; bag < bags.get(route).size(); bag++) {
                if (bags.get(route).get(bag).contains(item)) {
                    return new int[] {route, bag};
                }
            }
        }
        return null;
    }

    List<Item> tray() {
        List<Item> tray = new ArrayList<>();
        for (Item item : present.values()) {
            if (whereabouts(item) == null) {
                tray.add(item);
            }
        }
        tray.sort(Comparator.comparing((Item item) -> !item.priority).thenComparing(i -> i.id));
        return tray;
    }

    static int weight(Iterable<Item> items) {
        int sum = 0;
        for (Item item : items) {
            sum += item.weight;
        }
        return sum;
    }

    int weightOfRoute(int route) {
        return bags.get(route).stream().mapToInt(PlainOffice::weight).sum();
    }

    int place(int id, int route) {
        Item item = item(id);
        route(route);
        state(whereabouts(item) == null);
        state(item.priority || hours % 24 < cutoffs[route]);
        List<List<Item>> open = bags.get(route);
        for (int bag = 0; bag < 3; bag++) {
            if (bag == open.size()) {
                open.add(new ArrayList<>());
            }
            if (weight(open.get(bag)) + item.weight <= 150) {
                open.get(bag).add(item);
                return bag;
            }
        }
        throw new IllegalStateException();
    }

    int sort(int id) {
        String prefix = match(item(id).code);
        state(prefix != null);
        return place(id, table.get(prefix));
    }

    int sortAll() {
        int count = 0;
        for (Item item : tray()) {
            try {
                sort(item.id);
                count++;
            } catch (IllegalStateException stays) {
                continue;
            }
        }
        return count;
    }

    int pull(int id) {
        Item item = item(id);
        int[] where = whereabouts(item);
        state(where != null);
        bags.get(where[0]).get(where[1]).remove(item);
        return where[0];
    }

    int setCutoff(int route, int hour) {
        route(route);
        range(hour >= 0 && hour <= 24);
        int before = cutoffs[route];
        cutoffs[route] = hour;
        return before;
    }

    int setDeparture(int route, int hour) {
        route(route);
        range(hour >= 0 && hour <= 23);
        int before = departures[route];
        departures[route] = hour;
        return before;
    }

    int pass(int count) {
        range(count >= 1 && count <= 48);
        int before = delivered;
        for (int i = 0; i < count; i++) {
            hours++;
            for (int route = 0; route < 6; route++) {
                if (departures[route] == hours % 24) {
                    depart(route);
                }
            }
        }
        return delivered - before;
    }

    private void depart(int route) {
        List<Item> leaving = new ArrayList<>();
        bags.get(route).forEach(leaving::addAll);
        bags.get(route).clear();
        for (Item item : leaving) {
            String prefix = match(item.code);
            if (prefix != null && table.get(prefix) == route) {
                delivered++;
                present.remove(item.id);
            } else {
                returned++;
                item.returns++;
                if (item.returns == 3) {
                    dead++;
                    present.remove(item.id);
                }
            }
        }
    }

    boolean missorted(Item item) {
        int[] where = whereabouts(item);
        String prefix = match(item.code);
        return where != null && (prefix == null || table.get(prefix) != where[0]);
    }

    int hoursToDelivery(int id) {
        Item item = item(id);
        state(whereabouts(item) != null && !missorted(item));
        int route = whereabouts(item)[0];
        return untilDeparture(route);
    }

    int untilDeparture(int route) {
        int count = 1;
        while ((hours + count) % 24 != departures[route]) {
            count++;
        }
        return count;
    }

    String line(int id) {
        Item item = item(id);
        int[] where = whereabouts(item);
        return (item.priority ? "P" : "S") + id + ":" + item.code + " " + item.weight + "g"
            + (where == null ? "" : " r" + where[0] + "." + where[1])
            + (item.returns == 0 ? "" : " *" + item.returns);
    }

    int[] routesByWeight() {
        List<Integer> routes = new ArrayList<>(List.of(0, 1, 2, 3, 4, 5));
        routes.sort(Comparator.comparing((Integer r) -> -weightOfRoute(r))
            .thenComparing(r -> -bags.get(r).size()).thenComparing(r -> r));
        return routes.stream().mapToInt(r -> r).toArray();
    }

    int[] codesByRoute() {
        int[] counts = new int[6];
        for (int code = 0; code <= 9999; code++) {
            String prefix = match(text(code, 4));
            if (prefix != null) {
                counts[table.get(prefix)]++;
            }
        }
        return counts;
    }
}
