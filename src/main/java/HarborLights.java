import java.util.NoSuchElementException;

/**
 * A syndicate that runs a lighthouse: a chart of ports and legs, ships that subscribe for routes, nights whose
 * light is paid for in fair shares, command texts, undo and snapshots.
 */
public final class HarborLights {
    private static final int MAX_PORTS = 10;
    private static final int MAX_LEGS = 20;
    private static final int MAX_LENGTH = 99;
    private static final int MAX_REACH = 20;
    private static final int MAX_SUBSCRIBERS = 6;
    private static final int MAX_ORDERS = 720;
    private static final int MAX_MONEY = 9999;
    private static final int MAX_FOG = 9;
    private static final int MAX_TEXT = 60;
    private static final int MAX_VALUES = 4;
    private static final int MAX_UNDO = 8;
    private static final int COST_FACTOR = 60;
    private static final int FIRST_CHARACTER = 32;
    private static final int LAST_CHARACTER = 126;

    /** What a search answers that finds nothing. */
    private static final int NONE = -1;

    // Why a modification is refused: the methods throw by these, a command text only asks whether there is one.
    private static final int NO_FAULT = 0;
    private static final int NO_SUCH_NUMBER = 1;
    private static final int BAD_ARGUMENT = 2;
    private static final int BAD_STATE = 3;
    private static final int NO_SUCH_LEG = 4;
    private static final int NO_ROUTE = 5;

    private final Office office = new Office();
    private final Script script = new Script();
    private final History history = new History();
    private final State saved = new State();
    private final State beforeText = new State();
    private final StringBuilder line = new StringBuilder();
    private boolean hasSaved;
    private int malformedAt = NONE;
    private int failedAt = NONE;

    public HarborLights() {
    }

    // The chart.

    public int addPort() throws IllegalStateException {
        refuse(office.portFault());
        history.keep(office.now);
        return office.putPort();
    }

    public int addLeg(int from, int to, int length, int reach)
            throws IndexOutOfBoundsException, IllegalArgumentException, IllegalStateException {
        refuse(office.legFault(from, to, length, reach));
        history.keep(office.now);
        return office.putLeg(from, to, length, reach);
    }

    public int removeLeg(int from, int to) throws IndexOutOfBoundsException, NoSuchElementException {
        refuse(office.cutFault(from, to));
        history.keep(office.now);
        return office.cutLeg(from, to);
    }

    public int portCount() {
        return office.now.chart.ports;
    }

    public int legCount() {
        return office.now.chart.legs;
    }

    public boolean hasLeg(int from, int to) throws IndexOutOfBoundsException {
        checkPorts(from, to);
        return office.now.chart.find(from, to) != NONE;
    }

    public int lengthOf(int from, int to) throws IndexOutOfBoundsException, NoSuchElementException {
        return office.now.chart.length[positionOfLeg(from, to)];
    }

    public int reachOf(int from, int to) throws IndexOutOfBoundsException, NoSuchElementException {
        return office.now.chart.reach[positionOfLeg(from, to)];
    }

    public int meterOf(int from, int to) throws IndexOutOfBoundsException, NoSuchElementException {
        return office.now.chart.meter[positionOfLeg(from, to)];
    }

    public boolean isLit(int from, int to) throws IndexOutOfBoundsException, NoSuchElementException {
        return office.now.chart.reach[positionOfLeg(from, to)] <= office.now.range;
    }

    public int lowerPortAt(int position) throws IndexOutOfBoundsException {
        checkPosition(position);
        return office.now.chart.lower[position];
    }

    public int upperPortAt(int position) throws IndexOutOfBoundsException {
        checkPosition(position);
        return office.now.chart.upper[position];
    }

    // Routes.

    public int distance(int from, int to) throws IndexOutOfBoundsException, NoSuchElementException {
        checkPorts(from, to);
        return found(office.routes.lengthByNearest(office.now.chart, from, to, MAX_REACH));
    }

    public int distanceByRounds(int from, int to) throws IndexOutOfBoundsException, NoSuchElementException {
        checkPorts(from, to);
        return found(office.routes.lengthByRounds(office.now.chart, from, to));
    }

    public int litDistance(int from, int to) throws IndexOutOfBoundsException, NoSuchElementException {
        checkPorts(from, to);
        return found(office.routes.lengthByNearest(office.now.chart, from, to, office.now.range));
    }

    public int neededRange(int from, int to)
            throws IndexOutOfBoundsException, IllegalArgumentException, NoSuchElementException {
        checkDifferentPorts(from, to);
        return found(office.routes.needByJoining(office.now.chart, from, to));
    }

    public int neededRangeByTrial(int from, int to)
            throws IndexOutOfBoundsException, IllegalArgumentException, NoSuchElementException {
        checkDifferentPorts(from, to);
        return found(office.routes.needByTrial(office.now.chart, from, to));
    }

    public int litGroups() {
        return office.routes.countGroups(office.now.chart, office.now.range);
    }

    // Subscribers.

    public int subscribe(int start, int goal, int money) throws IndexOutOfBoundsException, IllegalArgumentException,
            IllegalStateException, UnsupportedOperationException {
        refuse(office.shipFault(start, goal, money));
        history.keep(office.now);
        return office.putShip(start, goal, money);
    }

    public int leave(int subscriber) throws IndexOutOfBoundsException {
        refuse(office.leaveFault(subscriber));
        history.keep(office.now);
        return office.letGo(subscriber);
    }

    public int deposit(int subscriber, int amount) throws IndexOutOfBoundsException, IllegalArgumentException {
        refuse(office.payFault(subscriber, amount));
        history.keep(office.now);
        return office.payIn(subscriber, amount);
    }

    public int subscriberCount() {
        return office.now.ships.count;
    }

    public int startOf(int subscriber) throws IndexOutOfBoundsException {
        checkSubscriber(subscriber);
        return office.now.ships.start[subscriber];
    }

    public int goalOf(int subscriber) throws IndexOutOfBoundsException {
        checkSubscriber(subscriber);
        return office.now.ships.goal[subscriber];
    }

    public int moneyOf(int subscriber) throws IndexOutOfBoundsException {
        checkSubscriber(subscriber);
        return office.now.ships.money[subscriber];
    }

    public int needOf(int subscriber) throws IndexOutOfBoundsException, NoSuchElementException {
        checkSubscriber(subscriber);
        return found(office.findNeed(subscriber));
    }

    public int litNightsOf(int subscriber) throws IndexOutOfBoundsException {
        checkSubscriber(subscriber);
        return office.now.ships.litNights[subscriber];
    }

    public int darkNightsOf(int subscriber) throws IndexOutOfBoundsException {
        checkSubscriber(subscriber);
        return office.now.ships.darkNights[subscriber];
    }

    public int shareOf(int subscriber) throws IndexOutOfBoundsException, NoSuchElementException {
        checkSubscriber(subscriber);
        office.gatherAll();
        office.shares.divide();
        return found(office.shares.share[subscriber]);
    }

    public int shareByOrders(int subscriber) throws IndexOutOfBoundsException, NoSuchElementException {
        checkSubscriber(subscriber);
        office.gatherAll();
        return found(office.shares.meanOverOrders(subscriber));
    }

    public int subscriberByDark(int rank) throws NoSuchElementException {
        return found(office.now.ships.atDarkRank(rank));
    }

    // Nights and accounts.

    public int setFog(int nights) throws IllegalArgumentException {
        refuse(office.fogFault(nights));
        history.keep(office.now);
        return office.putFog(nights);
    }

    public int fogNights() {
        return office.now.fog;
    }

    public int night() {
        history.keep(office.now);
        return office.passNight();
    }

    public boolean wouldBeLit(int subscriber) throws IndexOutOfBoundsException {
        checkSubscriber(subscriber);
        office.planNight();
        return office.shares.takesPart[subscriber];
    }

    public int nextRange() {
        office.planNight();
        return office.shares.greatestNeed();
    }

    public int range() {
        return office.now.range;
    }

    public int nightCount() {
        return office.now.nights;
    }

    public int costOf(int range) throws IllegalArgumentException {
        if (range < 0 || range > MAX_REACH) {
            throw new IllegalArgumentException("no such range");
        }
        return Shares.cost(range);
    }

    public long fund() {
        return office.now.fund;
    }

    public long refunded() {
        return office.now.refunded;
    }

    public double meanMoney() throws ArithmeticException {
        int count = office.now.ships.count;
        if (count == 0) {
            throw new ArithmeticException("no subscribers");
        }
        return (double) office.now.ships.totalMoney() / (double) count;
    }

    public float litShare() throws ArithmeticException {
        int lit = office.now.ships.totalLitNights();
        int all = lit + office.now.ships.totalDarkNights();
        if (all == 0) {
            throw new ArithmeticException("no nights");
        }
        return (float) lit / (float) all;
    }

    // Lines and checks.

    public int writeSubscriber(int subscriber) throws IndexOutOfBoundsException {
        checkSubscriber(subscriber);
        Ships ships = office.now.ships;
        line.setLength(0);
        line.append(ships.start[subscriber]).append('>').append(ships.goal[subscriber]);
        line.append(':').append(ships.money[subscriber]);
        int need = office.findNeed(subscriber);
        if (need == NONE) {
            line.append('-');
        } else {
            line.append('n').append(need);
        }
        return line.length();
    }

    public int writeLeg(int position) throws IndexOutOfBoundsException {
        checkPosition(position);
        Chart chart = office.now.chart;
        line.setLength(0);
        line.append(chart.lower[position]).append('-').append(chart.upper[position]);
        line.append(':').append(chart.length[position]);
        line.append('/').append(chart.reach[position]);
        if (chart.reach[position] <= office.now.range) {
            line.append('*');
        }
        return line.length();
    }

    public char lineAt(int index) throws IndexOutOfBoundsException {
        if (index < 0 || index >= line.length()) {
            throw new IndexOutOfBoundsException("no such character");
        }
        return line.charAt(index);
    }

    public boolean isConsistent() {
        return office.routesAgree() && office.sharesAgree() && office.moneyAddsUp();
    }

    // Text, undo and snapshots.

    public int type(char character) throws IllegalArgumentException, IllegalStateException {
        if (character < FIRST_CHARACTER || character > LAST_CHARACTER) {
            throw new IllegalArgumentException("no such character");
        }
        if (script.isFull()) {
            throw new IllegalStateException("the text buffer is full");
        }
        return script.append(character);
    }

    public int execute() throws IllegalArgumentException, IllegalStateException {
        int count = script.countCommands();
        if (count == NONE) {
            malformedAt = script.position;
            script.clear();
            throw new IllegalArgumentException("the text is malformed");
        }
        beforeText.copyFrom(office.now);
        script.rewind();
        int done = 0;
        while (done < count && script.readNext() && office.perform(script.command, script.values)) {
            done++;
        }
        script.clear();
        if (done < count) {
            office.now.copyFrom(beforeText);
            failedAt = done;
            throw new IllegalStateException("a command failed");
        }
        history.keep(beforeText);
        return count;
    }

    public int errorPosition() throws NoSuchElementException {
        return found(malformedAt);
    }

    public int failedCommand() throws NoSuchElementException {
        return found(failedAt);
    }

    public int undo() throws IllegalStateException {
        if (history.count == 0) {
            throw new IllegalStateException("nothing can be undone");
        }
        history.takeBack(office.now);
        return history.count;
    }

    public int save() {
        saved.copyFrom(office.now);
        hasSaved = true;
        return office.now.ships.count;
    }

    public int restore() throws IllegalStateException {
        if (!hasSaved) {
            throw new IllegalStateException("there is no snapshot");
        }
        office.now.copyFrom(saved);
        history.clear();
        return office.now.ships.count;
    }

    // What the public methods have in common.

    private static void refuse(int fault) {
        switch (fault) {
            case NO_SUCH_NUMBER:
                throw new IndexOutOfBoundsException("no such port or subscriber");
            case BAD_ARGUMENT:
                throw new IllegalArgumentException("not allowed as an argument");
            case BAD_STATE:
                throw new IllegalStateException("not possible now");
            case NO_SUCH_LEG:
                throw new NoSuchElementException("no leg between the ports");
            case NO_ROUTE:
                throw new UnsupportedOperationException("no route between the ports");
            default:
                return;
        }
    }

    private static int found(int answer) {
        if (answer == NONE) {
            throw new NoSuchElementException("nothing found");
        }
        return answer;
    }

    private void checkPorts(int from, int to) {
        if (!office.now.chart.hasPorts(from, to)) {
            throw new IndexOutOfBoundsException("no such port");
        }
    }

    private void checkDifferentPorts(int from, int to) {
        checkPorts(from, to);
        if (from == to) {
            throw new IllegalArgumentException("both are the same port");
        }
    }

    private int positionOfLeg(int from, int to) {
        checkPorts(from, to);
        return found(office.now.chart.find(from, to));
    }

    private void checkPosition(int position) {
        if (position < 0 || position >= office.now.chart.legs) {
            throw new IndexOutOfBoundsException("no such position");
        }
    }

    private void checkSubscriber(int subscriber) {
        if (!office.now.ships.has(subscriber)) {
            throw new IndexOutOfBoundsException("no such subscriber");
        }
    }

    /** The ports and the legs between them, the legs always in their order. */
    private static final class Chart {
        int ports;
        int legs;
        final int[] lower = new int[MAX_LEGS];
        final int[] upper = new int[MAX_LEGS];
        final int[] length = new int[MAX_LEGS];
        final int[] reach = new int[MAX_LEGS];
        final int[] meter = new int[MAX_LEGS];

        boolean hasPorts(int one, int other) {
            return one >= 0 && one < ports && other >= 0 && other < ports;
        }

        int find(int one, int other) {
            int low = Math.min(one, other);
            int high = Math.max(one, other);
            for (int leg = 0; leg < legs; leg++) {
                if (lower[leg] == low && upper[leg] == high) {
                    return leg;
                }
            }
            return NONE;
        }

        void insert(int one, int other, int newLength, int newReach) {
            if (legs >= MAX_LEGS) {
                return;
            }
            int low = Math.min(one, other);
            int high = Math.max(one, other);
            int place = 0;
            while (place < legs && comesBefore(place, newReach, newLength, low, high)) {
                place++;
            }
            for (int leg = legs; leg > place; leg--) {
                move(leg - 1, leg);
            }
            lower[place] = low;
            upper[place] = high;
            length[place] = newLength;
            reach[place] = newReach;
            meter[place] = 0;
            legs++;
        }

        void delete(int place) {
            if (place < 0 || place >= legs) {
                return;
            }
            for (int leg = place + 1; leg < legs; leg++) {
                move(leg, leg - 1);
            }
            legs--;
        }

        void countLight(int range) {
            for (int leg = 0; leg < legs; leg++) {
                if (reach[leg] <= range) {
                    meter[leg]++;
                }
            }
        }

        void copyFrom(Chart other) {
            ports = other.ports;
            legs = other.legs;
            System.arraycopy(other.lower, 0, lower, 0, MAX_LEGS);
            System.arraycopy(other.upper, 0, upper, 0, MAX_LEGS);
            System.arraycopy(other.length, 0, length, 0, MAX_LEGS);
            System.arraycopy(other.reach, 0, reach, 0, MAX_LEGS);
            System.arraycopy(other.meter, 0, meter, 0, MAX_LEGS);
        }

        private boolean comesBefore(int leg, int newReach, int newLength, int low, int high) {
            if (reach[leg] != newReach) {
                return reach[leg] < newReach;
            }
            if (length[leg] != newLength) {
                return length[leg] < newLength;
            }
            if (lower[leg] != low) {
                return lower[leg] < low;
            }
            return upper[leg] < high;
        }

        private void move(int from, int to) {
            lower[to] = lower[from];
            upper[to] = upper[from];
            length[to] = length[from];
            reach[to] = reach[from];
            meter[to] = meter[from];
        }
    }

    /** The subscribers by their numbers. */
    private static final class Ships {
        int count;
        final int[] start = new int[MAX_SUBSCRIBERS];
        final int[] goal = new int[MAX_SUBSCRIBERS];
        final int[] money = new int[MAX_SUBSCRIBERS];
        final int[] litNights = new int[MAX_SUBSCRIBERS];
        final int[] darkNights = new int[MAX_SUBSCRIBERS];

        boolean has(int ship) {
            return ship >= 0 && ship < count;
        }

        void add(int newStart, int newGoal, int newMoney) {
            if (count >= MAX_SUBSCRIBERS) {
                return;
            }
            start[count] = newStart;
            goal[count] = newGoal;
            money[count] = newMoney;
            litNights[count] = 0;
            darkNights[count] = 0;
            count++;
        }

        void delete(int gone) {
            if (!has(gone)) {
                return;
            }
            for (int ship = gone + 1; ship < count; ship++) {
                start[ship - 1] = start[ship];
                goal[ship - 1] = goal[ship];
                money[ship - 1] = money[ship];
                litNights[ship - 1] = litNights[ship];
                darkNights[ship - 1] = darkNights[ship];
            }
            count--;
        }

        long totalMoney() {
            long total = 0;
            for (int ship = 0; ship < count; ship++) {
                total += money[ship];
            }
            return total;
        }

        int totalLitNights() {
            int total = 0;
            for (int ship = 0; ship < count; ship++) {
                total += litNights[ship];
            }
            return total;
        }

        int totalDarkNights() {
            int total = 0;
            for (int ship = 0; ship < count; ship++) {
                total += darkNights[ship];
            }
            return total;
        }

        int atDarkRank(int rank) {
            for (int ship = 0; ship < count; ship++) {
                if (darkRank(ship) == rank) {
                    return ship;
                }
            }
            return NONE;
        }

        void copyFrom(Ships other) {
            count = other.count;
            System.arraycopy(other.start, 0, start, 0, MAX_SUBSCRIBERS);
            System.arraycopy(other.goal, 0, goal, 0, MAX_SUBSCRIBERS);
            System.arraycopy(other.money, 0, money, 0, MAX_SUBSCRIBERS);
            System.arraycopy(other.litNights, 0, litNights, 0, MAX_SUBSCRIBERS);
            System.arraycopy(other.darkNights, 0, darkNights, 0, MAX_SUBSCRIBERS);
        }

        private int darkRank(int ship) {
            int rank = 0;
            for (int other = 0; other < count; other++) {
                boolean more = darkNights[other] > darkNights[ship];
                boolean asManyButEarlier = darkNights[other] == darkNights[ship] && other < ship;
                if (more || asManyButEarlier) {
                    rank++;
                }
            }
            return rank;
        }
    }

    /** All that undo takes back and that a snapshot keeps. */
    private static final class State {
        final Chart chart = new Chart();
        final Ships ships = new Ships();
        int range;
        int nights;
        int fog;
        long fund;
        long refunded;
        /** The money that was brought in and not taken out again. */
        long broughtIn;

        void copyFrom(State other) {
            chart.copyFrom(other.chart);
            ships.copyFrom(other.ships);
            range = other.range;
            nights = other.nights;
            fog = other.fog;
            fund = other.fund;
            refunded = other.refunded;
            broughtIn = other.broughtIn;
        }
    }

    /** The last states before modifications, in a ring whose rows are used again. */
    private static final class History {
        int count;
        private int next;
        private final State[] states = new State[MAX_UNDO];

        History() {
            for (int i = 0; i < MAX_UNDO; i++) {
                states[i] = new State();
            }
        }

        void keep(State state) {
            State row = states[next];
            if (row == null) {
                return;
            }
            row.copyFrom(state);
            next = next + 1 < MAX_UNDO ? next + 1 : 0;
            count = Math.min(count + 1, MAX_UNDO);
        }

        void takeBack(State state) {
            int last = next > 0 ? next - 1 : MAX_UNDO - 1;
            State row = states[last];
            if (count == 0 || row == null) {
                return;
            }
            state.copyFrom(row);
            next = last;
            count--;
        }

        void clear() {
            count = 0;
        }
    }

    /** Searches on a chart; the rows are only used during one search. */
    private static final class Routes {
        private final int[] shortest = new int[MAX_PORTS];
        private final int[] group = new int[MAX_PORTS];
        private final boolean[] seen = new boolean[MAX_PORTS];

        /** The length of a shortest route over legs within a range, found by going on from the nearest port. */
        int lengthByNearest(Chart chart, int from, int to, int range) {
            beginAt(from);
            for (int round = 0; round < chart.ports; round++) {
                int nearest = nearestUnseen(chart.ports);
                if (nearest == NONE || nearest == to) {
                    return shortest[to];
                }
                seen[nearest] = true;
                goOn(chart, nearest, range);
            }
            return shortest[to];
        }

        /** The length of a shortest route, found by looking at all legs until no length becomes shorter. */
        int lengthByRounds(Chart chart, int from, int to) {
            beginAt(from);
            boolean shorter = true;
            for (int round = 0; shorter && round < MAX_PORTS; round++) {
                shorter = false;
                for (int leg = 0; leg < chart.legs; leg++) {
                    boolean upward = shorten(chart.lower[leg], chart.upper[leg], chart.length[leg]);
                    boolean downward = shorten(chart.upper[leg], chart.lower[leg], chart.length[leg]);
                    shorter = shorter || upward || downward;
                }
            }
            return shortest[to];
        }

        /** The range that two ports need, found by joining ports leg by leg in the order of legs. */
        int needByJoining(Chart chart, int from, int to) {
            separate();
            for (int leg = 0; leg < chart.legs; leg++) {
                join(chart.lower[leg], chart.upper[leg]);
                if (group[from] == group[to]) {
                    return chart.reach[leg];
                }
            }
            return NONE;
        }

        /** The range that two ports need, found by trying ranges. */
        int needByTrial(Chart chart, int from, int to) {
            for (int range = 0; range <= MAX_REACH; range++) {
                if (hasRoute(chart, from, to, range)) {
                    return range;
                }
            }
            return NONE;
        }

        int countGroups(Chart chart, int range) {
            separate();
            int groups = chart.ports;
            for (int leg = 0; leg < chart.legs; leg++) {
                if (chart.reach[leg] <= range && join(chart.lower[leg], chart.upper[leg])) {
                    groups--;
                }
            }
            return groups;
        }

        private void beginAt(int from) {
            for (int port = 0; port < MAX_PORTS; port++) {
                shortest[port] = NONE;
                seen[port] = false;
            }
            shortest[from] = 0;
        }

        private int nearestUnseen(int ports) {
            int nearest = NONE;
            for (int port = 0; port < ports; port++) {
                boolean open = !seen[port] && shortest[port] != NONE;
                if (open && (nearest == NONE || shortest[port] < shortest[nearest])) {
                    nearest = port;
                }
            }
            return nearest;
        }

        private void goOn(Chart chart, int port, int range) {
            for (int leg = 0; leg < chart.legs; leg++) {
                if (chart.reach[leg] <= range && chart.lower[leg] == port) {
                    shorten(port, chart.upper[leg], chart.length[leg]);
                }
                if (chart.reach[leg] <= range && chart.upper[leg] == port) {
                    shorten(port, chart.lower[leg], chart.length[leg]);
                }
            }
        }

        private boolean shorten(int from, int to, int length) {
            if (shortest[from] == NONE) {
                return false;
            }
            int through = shortest[from] + length;
            if (shortest[to] != NONE && shortest[to] <= through) {
                return false;
            }
            shortest[to] = through;
            return true;
        }

        private void separate() {
            for (int port = 0; port < MAX_PORTS; port++) {
                group[port] = port;
            }
        }

        /** Makes one group of the groups of two ports; answers whether they were two. */
        private boolean join(int one, int other) {
            int kept = group[one];
            int given = group[other];
            if (kept == given) {
                return false;
            }
            for (int port = 0; port < MAX_PORTS; port++) {
                if (group[port] == given) {
                    group[port] = kept;
                }
            }
            return true;
        }

        private boolean hasRoute(Chart chart, int from, int to, int range) {
            for (int port = 0; port < MAX_PORTS; port++) {
                seen[port] = port == from;
            }
            boolean spread = true;
            for (int round = 0; spread && !seen[to] && round < MAX_PORTS; round++) {
                spread = false;
                for (int leg = 0; leg < chart.legs; leg++) {
                    int low = chart.lower[leg];
                    int high = chart.upper[leg];
                    if (chart.reach[leg] <= range && seen[low] != seen[high]) {
                        seen[low] = true;
                        seen[high] = true;
                        spread = true;
                    }
                }
            }
            return seen[to];
        }
    }

    /** The shares of those that take part; the rows are filled anew for each question. */
    private static final class Shares {
        final boolean[] takesPart = new boolean[MAX_SUBSCRIBERS];
        /** The shares after they were divided, NONE for those that take no part. */
        final int[] share = new int[MAX_SUBSCRIBERS];
        private final int[] need = new int[MAX_SUBSCRIBERS];
        private final int[] order = new int[MAX_SUBSCRIBERS];
        private int size;

        static int cost(int range) {
            return COST_FACTOR * range * range;
        }

        void clear() {
            for (int ship = 0; ship < MAX_SUBSCRIBERS; ship++) {
                takesPart[ship] = false;
            }
        }

        void enter(int ship, int itsNeed) {
            need[ship] = itsNeed;
            takesPart[ship] = itsNeed != NONE;
        }

        int greatestNeed() {
            int greatest = 0;
            for (int ship = 0; ship < MAX_SUBSCRIBERS; ship++) {
                if (takesPart[ship] && need[ship] > greatest) {
                    greatest = need[ship];
                }
            }
            return greatest;
        }

        /** Divides the cost of each step from one need to the next higher one among those who need it. */
        void divide() {
            for (int ship = 0; ship < MAX_SUBSCRIBERS; ship++) {
                share[ship] = takesPart[ship] ? 0 : NONE;
            }
            int paid = 0;
            int greatest = greatestNeed();
            for (int step = 0; paid < greatest && step < MAX_SUBSCRIBERS; step++) {
                int next = leastNeedAbove(paid, greatest);
                int sharers = countNeeding(next);
                if (sharers > 0) {
                    addToShares(next, (cost(next) - cost(paid)) / sharers);
                }
                paid = next;
            }
        }

        /** The share as the mean over all orders of those that take part, NONE for one that takes no part. */
        int meanOverOrders(int ship) {
            if (!takesPart[ship]) {
                return NONE;
            }
            firstOrder();
            int total = 0;
            int orders = 0;
            boolean more = true;
            while (more && orders < MAX_ORDERS) {
                total += increaseBy(ship);
                orders++;
                more = nextOrder();
            }
            return orders > 0 ? total / orders : NONE;
        }

        /** While somebody cannot pay its share, the one of these with the lowest number takes part no more. */
        void dropThoseWhoCannotPay(Ships ships) {
            divide();
            int poor = firstWhoCannotPay(ships);
            for (int round = 0; poor != NONE && round < MAX_SUBSCRIBERS; round++) {
                takesPart[poor] = false;
                divide();
                poor = firstWhoCannotPay(ships);
            }
        }

        private int firstWhoCannotPay(Ships ships) {
            for (int ship = 0; ship < ships.count; ship++) {
                if (takesPart[ship] && ships.money[ship] < share[ship]) {
                    return ship;
                }
            }
            return NONE;
        }

        private int leastNeedAbove(int paid, int greatest) {
            int least = greatest;
            for (int ship = 0; ship < MAX_SUBSCRIBERS; ship++) {
                if (takesPart[ship] && need[ship] > paid && need[ship] < least) {
                    least = need[ship];
                }
            }
            return least;
        }

        private void addToShares(int range, int part) {
            for (int ship = 0; ship < MAX_SUBSCRIBERS; ship++) {
                if (takesPart[ship] && need[ship] >= range) {
                    share[ship] += part;
                }
            }
        }

        private int countNeeding(int range) {
            int count = 0;
            for (int ship = 0; ship < MAX_SUBSCRIBERS; ship++) {
                if (takesPart[ship] && need[ship] >= range) {
                    count++;
                }
            }
            return count;
        }

        /** By how much the cost increases when a subscriber joins in the present order. */
        private int increaseBy(int ship) {
            int greatest = 0;
            for (int place = 0; place < size; place++) {
                int joined = Math.max(greatest, need[order[place]]);
                if (order[place] == ship) {
                    return cost(joined) - cost(greatest);
                }
                greatest = joined;
            }
            return 0;
        }

        private void firstOrder() {
            size = 0;
            for (int ship = 0; ship < MAX_SUBSCRIBERS; ship++) {
                if (takesPart[ship]) {
                    order[size] = ship;
                    size++;
                }
            }
        }

        /** Goes on to the next order as in a lexicon; answers whether there was one. */
        private boolean nextOrder() {
            int turn = size - 2;
            while (turn >= 0 && order[turn] > order[turn + 1]) {
                turn--;
            }
            if (turn < 0) {
                return false;
            }
            int greater = size - 1;
            while (greater > turn && order[greater] < order[turn]) {
                greater--;
            }
            swap(turn, greater);
            int left = turn + 1;
            int right = size - 1;
            while (left < right) {
                swap(left, right);
                left++;
                right--;
            }
            return true;
        }

        private void swap(int one, int other) {
            int ship = order[one];
            order[one] = order[other];
            order[other] = ship;
        }
    }

    /** The present state, and what may be done with it by methods and by command texts. */
    private static final class Office {
        final State now = new State();
        final Routes routes = new Routes();
        final Shares shares = new Shares();

        int portFault() {
            return now.chart.ports >= MAX_PORTS ? BAD_STATE : NO_FAULT;
        }

        int putPort() {
            int port = now.chart.ports;
            now.chart.ports = port + 1;
            return port;
        }

        int legFault(int from, int to, int length, int reach) {
            if (!now.chart.hasPorts(from, to)) {
                return NO_SUCH_NUMBER;
            }
            boolean inRange = length >= 1 && length <= MAX_LENGTH && reach >= 1 && reach <= MAX_REACH;
            if (from == to || !inRange) {
                return BAD_ARGUMENT;
            }
            if (now.chart.legs >= MAX_LEGS || now.chart.find(from, to) != NONE) {
                return BAD_STATE;
            }
            return NO_FAULT;
        }

        int putLeg(int from, int to, int length, int reach) {
            now.chart.insert(from, to, length, reach);
            return now.chart.legs;
        }

        int cutFault(int from, int to) {
            if (!now.chart.hasPorts(from, to)) {
                return NO_SUCH_NUMBER;
            }
            return now.chart.find(from, to) == NONE ? NO_SUCH_LEG : NO_FAULT;
        }

        int cutLeg(int from, int to) {
            int place = now.chart.find(from, to);
            if (place == NONE) {
                return 0;
            }
            int length = now.chart.length[place];
            now.chart.delete(place);
            return length;
        }

        int shipFault(int start, int goal, int money) {
            if (!now.chart.hasPorts(start, goal)) {
                return NO_SUCH_NUMBER;
            }
            if (start == goal || money < 0 || money > MAX_MONEY) {
                return BAD_ARGUMENT;
            }
            if (now.ships.count >= MAX_SUBSCRIBERS) {
                return BAD_STATE;
            }
            return routes.needByJoining(now.chart, start, goal) == NONE ? NO_ROUTE : NO_FAULT;
        }

        int putShip(int start, int goal, int money) {
            int ship = now.ships.count;
            now.ships.add(start, goal, money);
            now.broughtIn += money;
            return ship;
        }

        int leaveFault(int ship) {
            return now.ships.has(ship) ? NO_FAULT : NO_SUCH_NUMBER;
        }

        int letGo(int ship) {
            int money = now.ships.money[ship];
            now.ships.delete(ship);
            now.broughtIn -= money;
            return money;
        }

        int payFault(int ship, int amount) {
            if (!now.ships.has(ship)) {
                return NO_SUCH_NUMBER;
            }
            return amount < 1 || amount > MAX_MONEY ? BAD_ARGUMENT : NO_FAULT;
        }

        int payIn(int ship, int amount) {
            now.ships.money[ship] += amount;
            now.broughtIn += amount;
            return now.ships.money[ship];
        }

        int fogFault(int nights) {
            return nights < 0 || nights > MAX_FOG ? BAD_ARGUMENT : NO_FAULT;
        }

        int putFog(int nights) {
            int previous = now.fog;
            now.fog = nights;
            return previous;
        }

        int passNight() {
            planNight();
            now.range = shares.greatestNeed();
            int litShips = 0;
            for (int ship = 0; ship < now.ships.count; ship++) {
                if (shares.takesPart[ship]) {
                    charge(ship, shares.share[ship]);
                    now.ships.litNights[ship]++;
                    litShips++;
                } else {
                    now.ships.darkNights[ship]++;
                }
            }
            if (now.fog > 0) {
                now.fog--;
            }
            now.chart.countLight(now.range);
            now.nights++;
            return litShips;
        }

        /** Does what a command stands for if its method would not throw, and answers whether it did. */
        boolean perform(Command command, int[] values) {
            if (faultOf(command, values) != NO_FAULT) {
                return false;
            }
            switch (command) {
                case PORT:
                    putPort();
                    break;
                case LEG:
                    putLeg(values[0], values[1], values[2], values[3]);
                    break;
                case CUT:
                    cutLeg(values[0], values[1]);
                    break;
                case SHIP:
                    putShip(values[0], values[1], values[2]);
                    break;
                case PAY:
                    payIn(values[0], values[1]);
                    break;
                case LEAVE:
                    letGo(values[0]);
                    break;
                case FOG:
                    putFog(values[0]);
                    break;
                default:
                    passNight();
                    break;
            }
            return true;
        }

        int findNeed(int ship) {
            return routes.needByJoining(now.chart, now.ships.start[ship], now.ships.goal[ship]);
        }

        /** Lets all subscribers that have a route take part. */
        void gatherAll() {
            shares.clear();
            for (int ship = 0; ship < now.ships.count; ship++) {
                int need = routes.needByJoining(now.chart, now.ships.start[ship], now.ships.goal[ship]);
                shares.enter(ship, need);
            }
        }

        /** Finds who takes part in the next night. */
        void planNight() {
            gatherAll();
            shares.dropThoseWhoCannotPay(now.ships);
        }

        boolean routesAgree() {
            for (int from = 0; from < now.chart.ports; from++) {
                for (int to = 0; to < now.chart.ports; to++) {
                    if (from != to && !pairAgrees(from, to)) {
                        return false;
                    }
                }
            }
            return true;
        }

        boolean sharesAgree() {
            gatherAll();
            shares.divide();
            for (int ship = 0; ship < now.ships.count; ship++) {
                if (shares.share[ship] != shares.meanOverOrders(ship)) {
                    return false;
                }
            }
            return true;
        }

        boolean moneyAddsUp() {
            return now.ships.totalMoney() + now.fund == now.broughtIn;
        }

        private boolean pairAgrees(int from, int to) {
            int near = routes.lengthByNearest(now.chart, from, to, MAX_REACH);
            int rounds = routes.lengthByRounds(now.chart, from, to);
            int joining = routes.needByJoining(now.chart, from, to);
            int trial = routes.needByTrial(now.chart, from, to);
            return near == rounds && joining == trial;
        }

        private void charge(int ship, int share) {
            now.ships.money[ship] -= share;
            now.fund += share;
            if (now.fog > 0) {
                int back = share / 2;
                now.ships.money[ship] += back;
                now.fund -= back;
                now.refunded += back;
            }
        }

        private int faultOf(Command command, int[] values) {
            switch (command) {
                case PORT:
                    return portFault();
                case LEG:
                    return legFault(values[0], values[1], values[2], values[3]);
                case CUT:
                    return cutFault(values[0], values[1]);
                case SHIP:
                    return shipFault(values[0], values[1], values[2]);
                case PAY:
                    return payFault(values[0], values[1]);
                case LEAVE:
                    return leaveFault(values[0]);
                case FOG:
                    return fogFault(values[0]);
                default:
                    return NO_FAULT;
            }
        }
    }

    /** The commands of a text: their words, and for each parameter the greatest number of its digits. */
    private enum Command {
        PORT("port", ""),
        LEG("leg", "1122"),
        CUT("cut", "11"),
        SHIP("ship", "114"),
        PAY("pay", "14"),
        LEAVE("leave", "1"),
        FOG("fog", "1"),
        NIGHT("night", "");

        final String word;
        final String digits;

        Command(String word, String digits) {
            this.word = word;
            this.digits = digits;
        }
    }

    /** The text buffer, and the reading of its commands one after the other. */
    private static final class Script {
        private static final Command[] COMMANDS = Command.values();

        /** Where the reading stands; after a malformed command, its error position. */
        int position;
        Command command = Command.PORT;
        final int[] values = new int[MAX_VALUES];
        private final char[] text = new char[MAX_TEXT];
        private int length;

        boolean isFull() {
            return length >= MAX_TEXT;
        }

        int append(char character) {
            if (!isFull()) {
                text[length] = character;
                length++;
            }
            return length;
        }

        void clear() {
            length = 0;
        }

        void rewind() {
            position = 0;
        }

        /** Reads the whole text; answers how many commands it has, or NONE if it is malformed. */
        int countCommands() {
            rewind();
            for (int count = 1; count <= MAX_TEXT; count++) {
                if (!readNext()) {
                    return NONE;
                }
                if (position == length) {
                    return count;
                }
            }
            return NONE;
        }

        /** Reads one command, and the semicolon before it unless it is the first. */
        boolean readNext() {
            if (position > 0 && !take(';')) {
                return false;
            }
            return readWord() && readValues();
        }

        private boolean take(char wanted) {
            if (position >= length || text[position] != wanted) {
                return false;
            }
            position++;
            return true;
        }

        // No word begins another word, so the first word that matches whole is the only one.
        private boolean readWord() {
            int furthest = 0;
            for (int i = 0; i < COMMANDS.length; i++) {
                String word = COMMANDS[i].word;
                int same = countMatching(word);
                if (same == word.length()) {
                    command = COMMANDS[i];
                    position += same;
                    return true;
                }
                furthest = Math.max(furthest, same);
            }
            position += furthest;
            return false;
        }

        private int countMatching(String word) {
            int same = 0;
            while (same < word.length() && position + same < length && text[position + same] == word.charAt(same)) {
                same++;
            }
            return same;
        }

        private boolean readValues() {
            String digits = command.digits;
            for (int i = 0; i < digits.length() && i < MAX_VALUES; i++) {
                if (!take(' ') || !readNumber(i, digits.charAt(i) - '0')) {
                    return false;
                }
            }
            return true;
        }

        private boolean readNumber(int place, int mostDigits) {
            int value = 0;
            int count = 0;
            while (count < mostDigits && position < length && isDigit(text[position])) {
                value = value * 10 + (text[position] - '0');
                position++;
                count++;
            }
            values[place] = value;
            return count > 0;
        }

        private static boolean isDigit(char character) {
            return character >= '0' && character <= '9';
        }
    }
}
