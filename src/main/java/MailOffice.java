import java.util.ArrayList;
import java.util.NoSuchElementException;

/**
 * A mail sorting office with a prefix routing table, bags with weight limits, departures by the
 * hour, and missorted letters that come back.
 */
public final class MailOffice {
    private static final int MAX_LETTERS = 20;
    private static final int MAX_CODE = 9999;
    private static final int MAX_WEIGHT = 50;
    private static final int MAX_RETURNS = 3;
    private static final int CODE_DIGITS = 4;
    private static final int FIRST_DIGIT = 1000;
    private static final int MAX_PREFIXES = 12;
    private static final int ROUTES = 6;
    private static final int MAX_BAGS = 3;
    private static final int BAG_LIMIT = 150;
    private static final int HOURS_PER_DAY = 24;
    private static final int FIRST_DEPARTURE = 6;
    private static final int MAX_PASSED_HOURS = 48;
    private static final int BUFFER_SIZE = 60;
    private static final int MAX_CHANGES = 8;

    /** Stands for "no route", "no bag", "no position" and the like. */
    private static final int NONE = -1;

    // A change of the office answers its result, which is never negative, or one of these faults;
    // so the commands of a program and the calls of the face share one check of each condition.
    private static final int BAD_ARGUMENT = -1;
    private static final int NO_SUCH_ROUTE = -2;
    private static final int NOT_FOUND = -3;
    private static final int NOT_NOW = -4;

    private static final Keyword[] KEYWORDS = Keyword.values();

    private Office office;
    private Office saved;
    private final ArrayList<Office> formerOffices;
    private final PrefixTree tree;
    private final char[] buffer;
    private int bufferLength;
    private final StringBuilder line;
    private int storedErrorPosition;
    private int storedFailedCommand;

    public MailOffice() {
        office = new Office();
        saved = null;
        formerOffices = new ArrayList<>();
        tree = new PrefixTree();
        buffer = new char[BUFFER_SIZE];
        bufferLength = 0;
        line = new StringBuilder();
        storedErrorPosition = NONE;
        storedFailedCommand = NONE;
    }

    // ---- Changes ----

    public int accept(int code, int weight, boolean isPriority)
            throws IllegalArgumentException, IllegalStateException {
        Office before = office.duplicate();
        return concluded(before, office.takeIn(code, weight, isPriority));
    }

    public int addPrefix(int digits, int length, int route)
            throws IllegalArgumentException, IndexOutOfBoundsException, IllegalStateException {
        Office before = office.duplicate();
        return concluded(before, office.table.enter(digits, length, route));
    }

    public int removePrefix(int digits, int length)
            throws IllegalArgumentException, NoSuchElementException {
        Office before = office.duplicate();
        return concluded(before, office.table.strike(digits, length));
    }

    public int sort(int id) throws NoSuchElementException, IllegalStateException {
        Office before = office.duplicate();
        return concluded(before, office.sortById(id));
    }

    public int sortAll() {
        Office before = office.duplicate();
        return concluded(before, office.sortTray());
    }

    public int place(int id, int route)
            throws NoSuchElementException, IndexOutOfBoundsException, IllegalStateException {
        Office before = office.duplicate();
        return concluded(before, office.placeById(id, route));
    }

    public int pull(int id) throws NoSuchElementException, IllegalStateException {
        Office before = office.duplicate();
        return concluded(before, office.takeOut(id));
    }

    public int setCutoff(int route, int hour)
            throws IndexOutOfBoundsException, IllegalArgumentException {
        Office before = office.duplicate();
        return concluded(before, office.changeCutoff(route, hour));
    }

    public int setDeparture(int route, int hour)
            throws IndexOutOfBoundsException, IllegalArgumentException {
        Office before = office.duplicate();
        return concluded(before, office.changeDeparture(route, hour));
    }

    public int pass(int hours) throws IllegalArgumentException {
        Office before = office.duplicate();
        return concluded(before, office.passHours(hours));
    }

    /** Ends a change: throws for a fault, and otherwise keeps the office as it was before. */
    private int concluded(Office before, int answer) {
        raise(answer);
        keepForUndo(before);
        return answer;
    }

    private static void raise(int fault) {
        if (fault == BAD_ARGUMENT) {
            throw new IllegalArgumentException("an argument is out of range");
        }
        if (fault == NO_SUCH_ROUTE) {
            throw new IndexOutOfBoundsException("there is no such route");
        }
        if (fault == NOT_FOUND) {
            throw new NoSuchElementException("there is no such letter or prefix");
        }
        if (fault == NOT_NOW) {
            throw new IllegalStateException("the state of the office does not allow this");
        }
    }

    private void keepForUndo(Office before) {
        if (formerOffices.size() >= MAX_CHANGES) {
            formerOffices.remove(0);
        }
        formerOffices.add(before);
    }

    // ---- Time ----

    public int hour() {
        return office.hour;
    }

    public int day() {
        return office.day;
    }

    // ---- Letters ----

    public int letterCount() {
        return office.letters.size();
    }

    public boolean isPresent(int id) {
        return office.letterWith(id) != null;
    }

    public int idAt(int position) throws IndexOutOfBoundsException {
        if (position < 0 || position >= office.letters.size()) {
            throw new IndexOutOfBoundsException("there is no letter at this position");
        }
        return office.letters.get(position).id;
    }

    public int codeOf(int id) throws NoSuchElementException {
        return presentLetter(id).code;
    }

    public int weightOf(int id) throws NoSuchElementException {
        return presentLetter(id).weight;
    }

    public boolean isPriority(int id) throws NoSuchElementException {
        return presentLetter(id).priority;
    }

    public int returnsOf(int id) throws NoSuchElementException {
        return presentLetter(id).returns;
    }

    public boolean isInTray(int id) throws NoSuchElementException {
        return presentLetter(id).inTray();
    }

    public int routeOfBag(int id) throws NoSuchElementException, IllegalStateException {
        return baggedLetter(id).route;
    }

    public int bagOf(int id) throws NoSuchElementException, IllegalStateException {
        return baggedLetter(id).bag;
    }

    public boolean isMissorted(int id) throws NoSuchElementException {
        return office.wouldComeBack(presentLetter(id));
    }

    public boolean canSort(int id) throws NoSuchElementException {
        return office.sortingBag(presentLetter(id)) != NONE;
    }

    public int sortableCount() {
        return office.duplicate().sortTray();
    }

    private Letter presentLetter(int id) {
        Letter letter = office.letterWith(id);
        if (letter == null) {
            throw new NoSuchElementException("no letter in the office has this id");
        }
        return letter;
    }

    private Letter baggedLetter(int id) {
        Letter letter = presentLetter(id);
        if (letter.inTray()) {
            throw new IllegalStateException("the letter is in the tray");
        }
        return letter;
    }

    // ---- Tray ----

    public int lateCount() {
        return office.countLate();
    }

    public int traySize() {
        return office.orderedTray().size();
    }

    public int trayAt(int position) throws NoSuchElementException {
        ArrayList<Letter> tray = office.orderedTray();
        if (position < 0 || position >= tray.size()) {
            throw new NoSuchElementException("the tray has no such position");
        }
        return tray.get(position).id;
    }

    // ---- Routing table ----

    public int prefixCount() {
        return office.table.prefixes.size();
    }

    public boolean hasPrefix(int digits, int length) throws IllegalArgumentException {
        if (!isPrefix(digits, length)) {
            throw new IllegalArgumentException("the length or the digits are out of range");
        }
        return office.table.positionOf(digits, length) != NONE;
    }

    public int routeFor(int code) throws IllegalArgumentException, NoSuchElementException {
        requireCode(code);
        return foundRoute(office.table.longestMatch(code, CODE_DIGITS).route);
    }

    public int routeForByTree(int code) throws IllegalArgumentException, NoSuchElementException {
        requireCode(code);
        tree.build(office.table);
        return foundRoute(tree.routeOfCode(code));
    }

    public int matchLength(int code) throws IllegalArgumentException {
        requireCode(code);
        return office.table.longestMatch(code, CODE_DIGITS).length;
    }

    public int codesOf(int route) throws IndexOutOfBoundsException {
        requireRoute(route);
        return office.table.countCodes(route);
    }

    private static void requireCode(int code) {
        if (!isCode(code)) {
            throw new IllegalArgumentException("the code is out of range");
        }
    }

    private static void requireRoute(int route) {
        if (!isRoute(route)) {
            throw new IndexOutOfBoundsException("there is no such route");
        }
    }

    private static int foundRoute(int route) {
        if (route == NONE) {
            throw new NoSuchElementException("the code has no route");
        }
        return route;
    }

    // ---- Bags and routes ----

    public int bagCount(int route) throws IndexOutOfBoundsException {
        requireRoute(route);
        return office.countBags(route);
    }

    public int bagWeight(int route, int bag)
            throws IndexOutOfBoundsException, NoSuchElementException {
        requireBag(route, bag);
        return office.weightInBag(route, bag);
    }

    public int lettersInBag(int route, int bag)
            throws IndexOutOfBoundsException, NoSuchElementException {
        requireBag(route, bag);
        return office.countInBag(route, bag);
    }

    public int routeWeight(int route) throws IndexOutOfBoundsException {
        requireRoute(route);
        return office.weightByLetters(route);
    }

    public int routeWeightByBags(int route) throws IndexOutOfBoundsException {
        requireRoute(route);
        return office.weightByBags(route);
    }

    public int cutoff(int route) throws IndexOutOfBoundsException {
        if (!isRoute(route)) {
            throw new IndexOutOfBoundsException("there is no such route");
        }
        return office.cutoffs[route];
    }

    public int departure(int route) throws IndexOutOfBoundsException {
        if (!isRoute(route)) {
            throw new IndexOutOfBoundsException("there is no such route");
        }
        return office.departures[route];
    }

    public int hoursToDeparture(int route) throws IndexOutOfBoundsException {
        requireRoute(route);
        return office.hoursUntilDeparture(route);
    }

    public int hoursToDelivery(int id) throws NoSuchElementException, IllegalStateException {
        return office.hoursUntilDeparture(deliverableLetter(id).route);
    }

    public int hoursToDeliveryByHours(int id)
            throws NoSuchElementException, IllegalStateException {
        int wanted = deliverableLetter(id).id;
        Office copy = office.duplicate();
        int hours = 0;
        while (copy.letterWith(wanted) != null && hours < HOURS_PER_DAY) {
            copy.passHours(1);
            hours++;
        }
        return hours;
    }

    public int freeWeight(int route) throws IndexOutOfBoundsException {
        requireRoute(route);
        return MAX_BAGS * BAG_LIMIT - office.weightByLetters(route);
    }

    public int fullestBag(int route) throws IndexOutOfBoundsException, NoSuchElementException {
        requireRoute(route);
        int fullest = office.heaviestBag(route);
        if (fullest == NONE) {
            throw new NoSuchElementException("the route has no bags");
        }
        return fullest;
    }

    public int routeByWeight(int rank) throws NoSuchElementException {
        for (int route = 0; route < ROUTES; route++) {
            if (office.rankOf(route) == rank) {
                return route;
            }
        }
        throw new NoSuchElementException("there is no such rank");
    }

    private void requireBag(int route, int bag) {
        requireRoute(route);
        if (bag < 0 || bag >= office.countBags(route)) {
            throw new NoSuchElementException("the route has no such bag");
        }
    }

    private Letter deliverableLetter(int id) {
        Letter letter = baggedLetter(id);
        if (office.wouldComeBack(letter)) {
            throw new IllegalStateException("the letter is missorted");
        }
        return letter;
    }

    // ---- Counts and checks ----

    public int missortedCount() {
        return office.countMissorted();
    }

    public int deliveredCount() {
        return office.delivered;
    }

    public int deadCount() {
        return office.dead;
    }

    public int returnCount() {
        return office.returned;
    }

    public double meanWeight() throws ArithmeticException {
        int count = office.letters.size();
        if (count == 0) {
            throw new ArithmeticException("the office has no letters");
        }
        return (double) office.totalWeight() / count;
    }

    public float deliveredShare() throws ArithmeticException {
        int accepted = office.nextId;
        if (accepted == 0) {
            throw new ArithmeticException("no letter has been accepted so far");
        }
        return (float) office.delivered / accepted;
    }

    public boolean isConsistent() {
        tree.build(office.table);
        return office.routesAgreeWith(tree) && office.bagsAreSound() && office.lettersAddUp();
    }

    // ---- The line ----

    public int formatLetter(int id) throws NoSuchElementException {
        Letter letter = presentLetter(id);
        line.setLength(0);
        letter.writeTo(line);
        return line.length();
    }

    public char lineChar(int index) throws IndexOutOfBoundsException {
        if (index < 0 || index >= line.length()) {
            throw new IndexOutOfBoundsException("the line has no such index");
        }
        return line.charAt(index);
    }

    // ---- Programs ----

    public int append(char character) throws IllegalArgumentException, IllegalStateException {
        if (character < ' ' || character > '~') {
            throw new IllegalArgumentException("the character is out of range");
        }
        if (bufferLength >= BUFFER_SIZE) {
            throw new IllegalStateException("the input buffer is full");
        }
        buffer[bufferLength] = character;
        bufferLength++;
        return bufferLength;
    }

    public int run() throws IllegalArgumentException, IllegalStateException {
        Parser parser = new Parser(buffer, bufferLength);
        bufferLength = 0;
        if (!parser.readProgram()) {
            storedErrorPosition = parser.position;
            throw new IllegalArgumentException("the program is malformed");
        }
        Office trial = office.duplicate();
        int count = parser.commands.size();
        for (int index = 0; index < count; index++) {
            if (parser.commands.get(index).executeOn(trial) < 0) {
                storedFailedCommand = index;
                throw new IllegalStateException("a command failed");
            }
        }
        keepForUndo(office);
        office = trial;
        return count;
    }

    public int errorPosition() throws NoSuchElementException {
        if (storedErrorPosition == NONE) {
            throw new NoSuchElementException("no program was malformed so far");
        }
        return storedErrorPosition;
    }

    public int failedCommand() throws NoSuchElementException {
        if (storedFailedCommand == NONE) {
            throw new NoSuchElementException("no command failed so far");
        }
        return storedFailedCommand;
    }

    // ---- Undo, save and restore ----

    public int undoableCount() {
        return formerOffices.size();
    }

    public int undo() throws IllegalStateException {
        int count = formerOffices.size();
        if (count == 0) {
            throw new IllegalStateException("no change can be undone");
        }
        office = formerOffices.remove(count - 1);
        return formerOffices.size();
    }

    public int save() {
        saved = office.duplicate();
        return office.letters.size();
    }

    public int restore() throws IllegalStateException {
        if (saved == null) {
            throw new IllegalStateException("there is no saved copy");
        }
        office = saved.duplicate();
        formerOffices.clear();
        return office.letters.size();
    }

    // ---- Ranges ----

    private static boolean isCode(int code) {
        return code >= 0 && code <= MAX_CODE;
    }

    private static boolean isRoute(int route) {
        return route >= 0 && route < ROUTES;
    }

    private static boolean isPrefix(int digits, int length) {
        return length >= 1 && length <= CODE_DIGITS
            && digits >= 0 && digits < powerOfTen(length);
    }

    private static int powerOfTen(int exponent) {
        switch (exponent) {
            case 1: return 10;
            case 2: return 100;
            case 3: return 1000;
            case 4: return 10000;
            default: return 1;
        }
    }

    /** A letter in the office; in the tray it has neither a route nor a bag. */
    private static final class Letter {
        final int id;
        final int code;
        final int weight;
        final boolean priority;
        int returns = 0;
        int route = NONE;
        int bag = NONE;

        Letter(int id, int code, int weight, boolean priority) {
            this.id = id;
            this.code = code;
            this.weight = weight;
            this.priority = priority;
        }

        Letter duplicate() {
            Letter copy = new Letter(id, code, weight, priority);
            copy.returns = returns;
            copy.route = route;
            copy.bag = bag;
            return copy;
        }

        boolean inTray() {
            return route == NONE;
        }

        boolean isIn(int someRoute, int someBag) {
            return route == someRoute && bag == someBag;
        }

        void moveToBag(int newRoute, int newBag) {
            route = newRoute;
            bag = newBag;
        }

        void moveToTray() {
            route = NONE;
            bag = NONE;
        }

        void comeBack() {
            returns++;
            moveToTray();
        }

        void writeTo(StringBuilder text) {
            text.append(priority ? 'P' : 'S').append(id).append(':');
            for (int power = FIRST_DIGIT; power > 0; power /= 10) {
                text.append(code / power % 10);
            }
            text.append(' ').append(weight).append('g');
            if (!inTray()) {
                text.append(" r").append(route).append('.').append(bag);
            }
            if (returns > 0) {
                text.append(" *").append(returns);
            }
        }
    }

    /** A prefix never changes, so that copies of the table can share it. */
    private static final class Prefix {
        final int digits;
        final int length;
        final int route;
        /** How many codes begin with the prefix, and the first of them. */
        final int span;
        final int firstCode;

        Prefix(int digits, int length, int route) {
            this.digits = digits;
            this.length = length;
            this.route = route;
            span = powerOfTen(CODE_DIGITS - length);
            firstCode = digits * span;
        }
    }

    private static final class RoutingTable {
        final ArrayList<Prefix> prefixes = new ArrayList<>();
        /** Matches every code but has no route: what is left where no prefix matches. */
        private final Prefix emptyPrefix = new Prefix(0, 0, NONE);

        void copyInto(RoutingTable copy) {
            for (int i = 0; i < prefixes.size(); i++) {
                copy.prefixes.add(prefixes.get(i));
            }
        }

        int enter(int digits, int length, int route) {
            if (!isPrefix(digits, length)) {
                return BAD_ARGUMENT;
            }
            if (!isRoute(route)) {
                return NO_SUCH_ROUTE;
            }
            if (prefixes.size() >= MAX_PREFIXES || positionOf(digits, length) != NONE) {
                return NOT_NOW;
            }
            prefixes.add(new Prefix(digits, length, route));
            return prefixes.size();
        }

        int strike(int digits, int length) {
            if (!isPrefix(digits, length)) {
                return BAD_ARGUMENT;
            }
            int position = positionOf(digits, length);
            if (position < 0 || position >= prefixes.size()) {
                return NOT_FOUND;
            }
            return prefixes.remove(position).route;
        }

        int positionOf(int digits, int length) {
            for (int i = 0; i < prefixes.size(); i++) {
                Prefix prefix = prefixes.get(i);
                if (prefix.digits == digits && prefix.length == length) {
                    return i;
                }
            }
            return NONE;
        }

        /** The longest prefix of at most this length that matches the code. */
        Prefix longestMatch(int code, int maxLength) {
            Prefix longest = emptyPrefix;
            for (int i = 0; i < prefixes.size(); i++) {
                Prefix prefix = prefixes.get(i);
                boolean matches = code >= prefix.firstCode && code - prefix.firstCode < prefix.span;
                if (matches && prefix.length <= maxLength && prefix.length > longest.length) {
                    longest = prefix;
                }
            }
            return longest;
        }

        /**
         * Each prefix gives its codes to its own route and takes them away from the route of the
         * next shorter prefix around it, which is quicker than to ask for each of 10000 codes.
         */
        int countCodes(int route) {
            int count = 0;
            for (int i = 0; i < prefixes.size(); i++) {
                Prefix prefix = prefixes.get(i);
                Prefix around = longestMatch(prefix.firstCode, prefix.length - 1);
                if (prefix.route == route) {
                    count += prefix.span;
                }
                if (around.route == route) {
                    count -= prefix.span;
                }
            }
            return count;
        }
    }

    /** The prefixes as a tree of digits, in rows that each building uses again. */
    private static final class PrefixTree {
        private static final int ROOT = 0;
        private static final int MAX_NODES = 1 + MAX_PREFIXES * CODE_DIGITS;

        // The root is nobody's child, so that ROOT in this row means that there is no child.
        private final int[] children = new int[MAX_NODES * 10];
        private final int[] routes = new int[MAX_NODES];
        private int nodeCount = 0;

        void build(RoutingTable table) {
            nodeCount = 0;
            addNode();
            for (int i = 0; i < table.prefixes.size(); i++) {
                grow(table.prefixes.get(i));
            }
        }

        int routeOfCode(int code) {
            int node = ROOT;
            int route = NONE;
            for (int power = FIRST_DIGIT; power > 0; power /= 10) {
                node = child(node, code / power % 10);
                if (node <= ROOT || node >= routes.length) {
                    return route;
                }
                if (routes[node] != NONE) {
                    route = routes[node];
                }
            }
            return route;
        }

        private void grow(Prefix prefix) {
            int node = ROOT;
            int power = FIRST_DIGIT;
            for (int depth = 0; depth < prefix.length && power > 0; depth++) {
                int digit = prefix.firstCode / power % 10;
                power /= 10;
                int next = child(node, digit);
                if (next == ROOT) {
                    next = addNode();
                    linkChild(node, digit, next);
                }
                node = next;
            }
            if (node > ROOT && node < routes.length) {
                routes[node] = prefix.route;
            }
        }

        /** The new node's number, or ROOT if there is no room, which 12 prefixes cannot need. */
        private int addNode() {
            if (nodeCount >= MAX_NODES) {
                return ROOT;
            }
            int node = nodeCount;
            nodeCount++;
            routes[node] = NONE;
            for (int digit = 0; digit < 10; digit++) {
                linkChild(node, digit, ROOT);
            }
            return node;
        }

        private int child(int node, int digit) {
            int place = node * 10 + digit;
            return place >= 0 && place < children.length ? children[place] : ROOT;
        }

        private void linkChild(int node, int digit, int next) {
            int place = node * 10 + digit;
            if (place >= 0 && place < children.length) {
                children[place] = next;
            }
        }
    }

    /** Everything that changes can change. */
    private static final class Office {
        final ArrayList<Letter> letters = new ArrayList<>();
        final RoutingTable table = new RoutingTable();
        final int[] cutoffs = new int[ROUTES];
        final int[] departures = new int[ROUTES];
        final int[] bagCounts = new int[ROUTES];
        int hour = 0;
        int day = 0;
        int nextId = 0;
        int delivered = 0;
        int dead = 0;
        int returned = 0;

        Office() {
            for (int route = 0; route < ROUTES; route++) {
                cutoffs[route] = HOURS_PER_DAY;
                departures[route] = FIRST_DEPARTURE;
            }
        }

        Office duplicate() {
            Office copy = new Office();
            for (int i = 0; i < letters.size(); i++) {
                copy.letters.add(letters.get(i).duplicate());
            }
            table.copyInto(copy.table);
            for (int route = 0; route < ROUTES; route++) {
                copy.cutoffs[route] = cutoffs[route];
                copy.departures[route] = departures[route];
                copy.bagCounts[route] = bagCounts[route];
            }
            copy.hour = hour;
            copy.day = day;
            copy.nextId = nextId;
            copy.delivered = delivered;
            copy.dead = dead;
            copy.returned = returned;
            return copy;
        }

        int takeIn(int code, int weight, boolean priority) {
            if (!isCode(code) || weight < 1 || weight > MAX_WEIGHT) {
                return BAD_ARGUMENT;
            }
            if (letters.size() >= MAX_LETTERS) {
                return NOT_NOW;
            }
            Letter letter = new Letter(nextId, code, weight, priority);
            nextId++;
            letters.add(letter);
            return letter.id;
        }

        Letter letterWith(int id) {
            for (int i = 0; i < letters.size(); i++) {
                if (letters.get(i).id == id) {
                    return letters.get(i);
                }
            }
            return null;
        }

        int sortById(int id) {
            Letter letter = letterWith(id);
            return letter == null ? NOT_FOUND : putByCode(letter);
        }

        int placeById(int id, int route) {
            Letter letter = letterWith(id);
            if (letter == null) {
                return NOT_FOUND;
            }
            return isRoute(route) ? put(letter, route) : NO_SUCH_ROUTE;
        }

        int takeOut(int id) {
            Letter letter = letterWith(id);
            if (letter == null) {
                return NOT_FOUND;
            }
            if (letter.inTray()) {
                return NOT_NOW;
            }
            int route = letter.route;
            letter.moveToTray();
            return route;
        }

        int sortTray() {
            ArrayList<Letter> tray = orderedTray();
            int count = 0;
            for (int i = 0; i < tray.size(); i++) {
                if (putByCode(tray.get(i)) != NOT_NOW) {
                    count++;
                }
            }
            return count;
        }

        private int putByCode(Letter letter) {
            return put(letter, routeByCode(letter));
        }

        /** The number of the bag, or NOT_NOW. */
        private int put(Letter letter, int route) {
            int bag = bagFor(letter, route);
            if (bag == NONE || !isRoute(route)) {
                return NOT_NOW;
            }
            letter.moveToBag(route, bag);
            if (bag == bagCounts[route]) {
                bagCounts[route]++;
            }
            return bag;
        }

        /** The bag into which sort would put the letter now, or NONE. */
        int sortingBag(Letter letter) {
            return bagFor(letter, routeByCode(letter));
        }

        /** The bag of the route, open or next to be opened, into which the letter can come. */
        private int bagFor(Letter letter, int route) {
            if (!letter.inTray() || !isRoute(route) || isLate(letter, route)) {
                return NONE;
            }
            int open = bagCounts[route];
            for (int bag = 0; bag < open; bag++) {
                if (weightInBag(route, bag) + letter.weight <= BAG_LIMIT) {
                    return bag;
                }
            }
            return open < MAX_BAGS ? open : NONE;
        }

        private boolean isLate(Letter letter, int route) {
            return !letter.priority && isRoute(route) && hour >= cutoffs[route];
        }

        int changeCutoff(int route, int newHour) {
            if (!isRoute(route)) {
                return NO_SUCH_ROUTE;
            }
            if (newHour < 0 || newHour > HOURS_PER_DAY) {
                return BAD_ARGUMENT;
            }
            int previous = cutoffs[route];
            cutoffs[route] = newHour;
            return previous;
        }

        int changeDeparture(int route, int newHour) {
            if (!isRoute(route)) {
                return NO_SUCH_ROUTE;
            }
            if (newHour < 0 || newHour >= HOURS_PER_DAY) {
                return BAD_ARGUMENT;
            }
            int previous = departures[route];
            departures[route] = newHour;
            return previous;
        }

        int passHours(int hours) {
            if (hours < 1 || hours > MAX_PASSED_HOURS) {
                return BAD_ARGUMENT;
            }
            int deliveredBefore = delivered;
            for (int passed = 0; passed < hours; passed++) {
                moveClock();
                for (int route = 0; route < ROUTES; route++) {
                    if (departures[route] == hour) {
                        bagCounts[route] = 0;
                        sendLetters(route);
                    }
                }
            }
            return delivered - deliveredBefore;
        }

        private void moveClock() {
            hour++;
            if (hour >= HOURS_PER_DAY) {
                hour = 0;
                day++;
            }
        }

        private void sendLetters(int route) {
            // From the last to the first, so that removing a letter moves none still to come.
            for (int i = letters.size() - 1; i >= 0; i--) {
                Letter letter = letters.get(i);
                if (letter.route != route) {
                    continue;
                }
                if (!wouldComeBack(letter)) {
                    delivered++;
                    letters.remove(i);
                    continue;
                }
                returned++;
                letter.comeBack();
                if (letter.returns >= MAX_RETURNS) {
                    dead++;
                    letters.remove(i);
                }
            }
        }

        boolean wouldComeBack(Letter letter) {
            return !letter.inTray() && routeByCode(letter) != letter.route;
        }

        /** The route of the letter's code, or NONE. */
        private int routeByCode(Letter letter) {
            return table.longestMatch(letter.code, CODE_DIGITS).route;
        }

        int countMissorted() {
            int count = 0;
            for (int i = 0; i < letters.size(); i++) {
                if (wouldComeBack(letters.get(i))) {
                    count++;
                }
            }
            return count;
        }

        int countLate() {
            int count = 0;
            for (int i = 0; i < letters.size(); i++) {
                Letter letter = letters.get(i);
                if (letter.inTray() && isLate(letter, routeByCode(letter))) {
                    count++;
                }
            }
            return count;
        }

        ArrayList<Letter> orderedTray() {
            ArrayList<Letter> tray = new ArrayList<>();
            addTrayLetters(tray, true);
            addTrayLetters(tray, false);
            return tray;
        }

        /** The letters stand in the order of their ids, which the tray keeps for each kind. */
        private void addTrayLetters(ArrayList<Letter> tray, boolean priority) {
            for (int i = 0; i < letters.size(); i++) {
                Letter letter = letters.get(i);
                if (letter.inTray() && letter.priority == priority) {
                    tray.add(letter);
                }
            }
        }

        int countBags(int route) {
            return isRoute(route) ? bagCounts[route] : 0;
        }

        int weightInBag(int route, int bag) {
            int weight = 0;
            for (int i = 0; i < letters.size(); i++) {
                Letter letter = letters.get(i);
                if (letter.isIn(route, bag)) {
                    weight += letter.weight;
                }
            }
            return weight;
        }

        int countInBag(int route, int bag) {
            int count = 0;
            for (int i = 0; i < letters.size(); i++) {
                if (letters.get(i).isIn(route, bag)) {
                    count++;
                }
            }
            return count;
        }

        int weightByLetters(int route) {
            int weight = 0;
            for (int i = 0; i < letters.size(); i++) {
                Letter letter = letters.get(i);
                if (letter.route == route) {
                    weight += letter.weight;
                }
            }
            return weight;
        }

        int weightByBags(int route) {
            int weight = 0;
            for (int bag = 0; bag < countBags(route); bag++) {
                weight += weightInBag(route, bag);
            }
            return weight;
        }

        int totalWeight() {
            int weight = 0;
            for (int i = 0; i < letters.size(); i++) {
                weight += letters.get(i).weight;
            }
            return weight;
        }

        /** The lowest of the bags with the greatest weight, or NONE without bags. */
        int heaviestBag(int route) {
            int heaviest = NONE;
            int greatest = NONE;
            for (int bag = 0; bag < countBags(route); bag++) {
                int weight = weightInBag(route, bag);
                if (weight > greatest) {
                    heaviest = bag;
                    greatest = weight;
                }
            }
            return heaviest;
        }

        int rankOf(int route) {
            int ahead = 0;
            for (int other = 0; other < ROUTES; other++) {
                if (ranksBefore(other, route)) {
                    ahead++;
                }
            }
            return ahead;
        }

        private boolean ranksBefore(int route, int other) {
            int weight = weightByLetters(route);
            int otherWeight = weightByLetters(other);
            if (weight != otherWeight) {
                return weight > otherWeight;
            }
            if (countBags(route) != countBags(other)) {
                return countBags(route) > countBags(other);
            }
            return route < other;
        }

        int hoursUntilDeparture(int route) {
            if (!isRoute(route)) {
                return HOURS_PER_DAY;
            }
            int hours = departures[route] - hour;
            return hours > 0 ? hours : hours + HOURS_PER_DAY;
        }

        boolean routesAgreeWith(PrefixTree tree) {
            for (int i = 0; i < letters.size(); i++) {
                Letter letter = letters.get(i);
                if (routeByCode(letter) != tree.routeOfCode(letter.code)) {
                    return false;
                }
            }
            return true;
        }

        boolean bagsAreSound() {
            for (int route = 0; route < ROUTES; route++) {
                if (weightByLetters(route) != weightByBags(route) || hasTooHeavyBag(route)) {
                    return false;
                }
            }
            return true;
        }

        private boolean hasTooHeavyBag(int route) {
            for (int bag = 0; bag < countBags(route); bag++) {
                if (weightInBag(route, bag) > BAG_LIMIT) {
                    return true;
                }
            }
            return false;
        }

        boolean lettersAddUp() {
            return nextId == letters.size() + delivered + dead;
        }
    }

    /** The keywords, with the greatest number of digits of each number behind them (0: none). */
    private enum Keyword {
        PRIORITY("priority ", 4, 2),
        STANDARD("standard ", 4, 2),
        PREFIX("prefix ", 4, 1),
        UNPREFIX("unprefix ", 4, 0),
        SORT("sort", 2, 0),
        PLACE("place ", 2, 1),
        PULL("pull ", 2, 0),
        CUTOFF("cutoff ", 1, 2),
        DEPARTURE("departure ", 1, 2),
        HOURS("hours ", 2, 0);

        final String text;
        final int firstDigits;
        final int secondDigits;

        Keyword(String text, int firstDigits, int secondDigits) {
            this.text = text;
            this.firstDigits = firstDigits;
            this.secondDigits = secondDigits;
        }
    }

    private static final class Command {
        private final Keyword keyword;
        private final int first;
        private final int firstLength;
        private final int second;

        /** The length of the first number is 0 if the command has no number. */
        Command(Keyword keyword, int first, int firstLength, int second) {
            this.keyword = keyword;
            this.first = first;
            this.firstLength = firstLength;
            this.second = second;
        }

        /** What the method of this command answers, or a fault. */
        int executeOn(Office office) {
            switch (keyword) {
                case PRIORITY: return office.takeIn(first, second, true);
                case STANDARD: return office.takeIn(first, second, false);
                case PREFIX: return office.table.enter(first, firstLength, second);
                case UNPREFIX: return office.table.strike(first, firstLength);
                case SORT: return firstLength == 0 ? office.sortTray() : office.sortById(first);
                case PLACE: return office.placeById(first, second);
                case PULL: return office.takeOut(first);
                case CUTOFF: return office.changeCutoff(first, second);
                case DEPARTURE: return office.changeDeparture(first, second);
                case HOURS: return office.passHours(first);
                default: return NOT_NOW;
            }
        }
    }

    /**
     * Reads a program from left to right and never passes a character that no valid program can
     * have there, so that after a failure the position is the error position.
     */
    private static final class Parser {
        private final char[] text;
        private final int length;
        int position = 0;
        final ArrayList<Command> commands = new ArrayList<>();

        Parser(char[] text, int length) {
            this.text = text;
            this.length = length;
        }

        boolean readProgram() {
            // Each turn passes at least one character.
            for (int turn = 0; turn <= length; turn++) {
                if (!readCommand()) {
                    return false;
                }
                if (position >= length) {
                    return true;
                }
                if (!skip(';')) {
                    return false;
                }
            }
            return false;
        }

        private boolean readCommand() {
            Keyword keyword = readKeyword();
            if (keyword == null) {
                return false;
            }
            int first = 0;
            int firstLength = 0;
            if (keyword != Keyword.SORT || skip(' ')) {
                int start = position;
                first = readNumber(keyword.firstDigits);
                firstLength = position - start;
                if (firstLength == 0) {
                    return false;
                }
            }
            int second = 0;
            if (keyword.secondDigits > 0) {
                second = skip(' ') ? readNumber(keyword.secondDigits) : NONE;
                if (second == NONE) {
                    return false;
                }
            }
            commands.add(new Command(keyword, first, firstLength, second));
            return true;
        }

        /** The keyword, or null; then all that some keyword begins with has been passed. */
        private Keyword readKeyword() {
            Keyword found = null;
            int longest = 0;
            for (int i = 0; i < KEYWORDS.length; i++) {
                int common = commonLength(KEYWORDS[i].text);
                if (common == KEYWORDS[i].text.length()) {
                    found = KEYWORDS[i];
                }
                longest = Math.max(longest, common);
            }
            position += longest;
            return found;
        }

        /** How many characters of the word stand at the position. */
        private int commonLength(String word) {
            int common = 0;
            while (common < word.length() && hasAt(position + common, word.charAt(common))) {
                common++;
            }
            return common;
        }

        /** Passes one to so many digits; their number, or NONE if there is no digit. */
        private int readNumber(int maxDigits) {
            int number = 0;
            int count = 0;
            while (count < maxDigits && hasDigitAt(position)) {
                number = number * 10 + (text[position] - '0');
                position++;
                count++;
            }
            return count == 0 ? NONE : number;
        }

        private boolean skip(char wanted) {
            if (!hasAt(position, wanted)) {
                return false;
            }
            position++;
            return true;
        }

        private boolean hasAt(int index, char wanted) {
            return isInside(index) && text[index] == wanted;
        }

        private boolean hasDigitAt(int index) {
            return isInside(index) && text[index] >= '0' && text[index] <= '9';
        }

        private boolean isInside(int index) {
            return index >= 0 && index < length && index < text.length;
        }
    }
}
