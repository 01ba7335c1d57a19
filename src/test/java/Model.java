import java.util.ArrayDeque;
import java.util.ArrayList;
import java.util.Deque;
import java.util.List;
import java.util.NoSuchElementException;
import java.util.TreeMap;
import java.util.regex.Matcher;
import java.util.regex.Pattern;

/**
 * The document once more, in other ways than the program's: matrices for routes, all orders by recursion, a regular
 * expression for texts, deep copies for undo. It only serves to be compared with.
 */
public final class Model {
    private static final int FAR = 1_000_000;
    private static final Pattern TEXT;

    static {
        String command = "(port|leg \\d \\d \\d{1,2} \\d{1,2}|cut \\d \\d|ship \\d \\d \\d{1,4}|pay \\d \\d{1,4}"
                + "|leave \\d|fog \\d|night)";
        TEXT = Pattern.compile(command + "(;" + command + ")*");
    }

    private static final class Leg {
        int low;
        int high;
        int length;
        int reach;
        int meter;
    }

    private static final class Ship {
        int start;
        int goal;
        int money;
        int lit;
        int dark;
    }

    private static final class World {
        int ports;
        TreeMap<String, Leg> legs = new TreeMap<>();
        List<Ship> ships = new ArrayList<>();
        int range;
        int nights;
        int fog;
        long fund;
        long refunded;

        World copy() {
            World copy = new World();
            copy.ports = ports;
            copy.range = range;
            copy.nights = nights;
            copy.fog = fog;
            copy.fund = fund;
            copy.refunded = refunded;
            for (Leg leg : legs.values()) {
                copy.put(leg.low, leg.high, leg.length, leg.reach).meter = leg.meter;
            }
            for (Ship ship : ships) {
                Ship twin = new Ship();
                twin.start = ship.start;
                twin.goal = ship.goal;
                twin.money = ship.money;
                twin.lit = ship.lit;
                twin.dark = ship.dark;
                copy.ships.add(twin);
            }
            return copy;
        }

        Leg put(int from, int to, int length, int reach) {
            Leg leg = new Leg();
            leg.low = Math.min(from, to);
            leg.high = Math.max(from, to);
            leg.length = length;
            leg.reach = reach;
            legs.put(String.format("%02d %02d %d %d", reach, length, leg.low, leg.high), leg);
            return leg;
        }

        Leg leg(int from, int to) {
            for (Leg leg : legs.values()) {
                if (leg.low == from && leg.high == to || leg.low == to && leg.high == from) {
                    return leg;
                }
            }
            return null;
        }
    }

    private World world = new World();
    private World snapshot;
    private final Deque<World> past = new ArrayDeque<>();
    private String text = "";
    private String line = "";
    private int malformed = -1;
    private int failed = -1;

    private void remember(World before) {
        past.addLast(before);
        if (past.size() > 8) {
            past.removeFirst();
        }
    }

    private void ports(int from, int to) {
        if (Math.min(from, to) < 0 || Math.max(from, to) >= world.ports) {
            throw new IndexOutOfBoundsException();
        }
    }

    private Leg existing(int from, int to) {
        ports(from, to);
        Leg leg = world.leg(from, to);
        if (leg == null) {
            throw new NoSuchElementException();
        }
        return leg;
    }

    private Ship ship(int subscriber) {
        if (subscriber < 0 || subscriber >= world.ships.size()) {
            throw new IndexOutOfBoundsException();
        }
        return world.ships.get(subscriber);
    }

    private Leg at(int position) {
        if (position < 0 || position >= world.legs.size()) {
            throw new IndexOutOfBoundsException();
        }
        return new ArrayList<>(world.legs.values()).get(position);
    }

    public int addPort() {
        if (world.ports == 10) {
            throw new IllegalStateException();
        }
        remember(world.copy());
        return world.ports++;
    }

    public int addLeg(int from, int to, int length, int reach) {
        ports(from, to);
        if (from == to || length < 1 || length > 99 || reach < 1 || reach > 20) {
            throw new IllegalArgumentException();
        }
        if (world.legs.size() == 20 || world.leg(from, to) != null) {
            throw new IllegalStateException();
        }
        remember(world.copy());
        world.put(from, to, length, reach);
        return world.legs.size();
    }

    public int removeLeg(int from, int to) {
        Leg leg = existing(from, to);
        remember(world.copy());
        Leg own = world.leg(from, to);
        world.legs.values().remove(own);
        return leg.length;
    }

    public int portCount() {
        return world.ports;
    }

    public int legCount() {
        return world.legs.size();
    }

    public boolean hasLeg(int from, int to) {
        ports(from, to);
        return world.leg(from, to) != null;
    }

    public int lengthOf(int from, int to) {
        return existing(from, to).length;
    }

    public int reachOf(int from, int to) {
        return existing(from, to).reach;
    }

    public int meterOf(int from, int to) {
        return existing(from, to).meter;
    }

    public boolean isLit(int from, int to) {
        return existing(from, to).reach <= world.range;
    }

    public int lowerPortAt(int position) {
        return at(position).low;
    }

    public int upperPortAt(int position) {
        return at(position).high;
    }

    /** The least sum (or, for needs, the least greatest) of the legs up to a reach, for all pairs at once. */
    private int best(int from, int to, int reach, boolean need) {
        int[][] best = new int[world.ports][world.ports];
        for (int i = 0; i < world.ports; i++) {
            for (int j = 0; j < world.ports; j++) {
                best[i][j] = i == j ? 0 : FAR;
            }
        }
        for (Leg leg : world.legs.values()) {
            if (leg.reach <= reach) {
                best[leg.low][leg.high] = need ? leg.reach : leg.length;
                best[leg.high][leg.low] = need ? leg.reach : leg.length;
            }
        }
        for (int k = 0; k < world.ports; k++) {
            for (int i = 0; i < world.ports; i++) {
                for (int j = 0; j < world.ports; j++) {
                    int by = need ? Math.max(best[i][k], best[k][j]) : best[i][k] + best[k][j];
                    best[i][j] = Math.min(best[i][j], by);
                }
            }
        }
        return best[from][to];
    }

    private int found(int answer) {
        if (answer >= FAR) {
            throw new NoSuchElementException();
        }
        return answer;
    }

    public int distance(int from, int to) {
        ports(from, to);
        return found(best(from, to, 20, false));
    }

    public int distanceByRounds(int from, int to) {
        return distance(from, to);
    }

    public int litDistance(int from, int to) {
        ports(from, to);
        return found(best(from, to, world.range, false));
    }

    public int neededRange(int from, int to) {
        ports(from, to);
        if (from == to) {
            throw new IllegalArgumentException();
        }
        return found(best(from, to, 20, true));
    }

    public int neededRangeByTrial(int from, int to) {
        return neededRange(from, to);
    }

    public int litGroups() {
        int groups = 0;
        for (int port = 0; port < world.ports; port++) {
            boolean first = true;
            for (int other = 0; other < port; other++) {
                first &= best(other, port, world.range, false) >= FAR;
            }
            groups += first ? 1 : 0;
        }
        return groups;
    }

    public int subscribe(int start, int goal, int money) {
        ports(start, goal);
        if (start == goal || money < 0 || money > 9999) {
            throw new IllegalArgumentException();
        }
        if (world.ships.size() == 6) {
            throw new IllegalStateException();
        }
        if (best(start, goal, 20, false) >= FAR) {
            throw new UnsupportedOperationException();
        }
        remember(world.copy());
        Ship ship = new Ship();
        ship.start = start;
        ship.goal = goal;
        ship.money = money;
        world.ships.add(ship);
        return world.ships.size() - 1;
    }

    public int leave(int subscriber) {
        ship(subscriber);
        remember(world.copy());
        return world.ships.remove(subscriber).money;
    }

    public int deposit(int subscriber, int amount) {
        ship(subscriber);
        if (amount < 1 || amount > 9999) {
            throw new IllegalArgumentException();
        }
        remember(world.copy());
        return ship(subscriber).money += amount;
    }

    public int subscriberCount() {
        return world.ships.size();
    }

    public int startOf(int subscriber) {
        return ship(subscriber).start;
    }

    public int goalOf(int subscriber) {
        return ship(subscriber).goal;
    }

    public int moneyOf(int subscriber) {
        return ship(subscriber).money;
    }

    private int need(Ship ship) {
        return best(ship.start, ship.goal, 20, true);
    }

    public int needOf(int subscriber) {
        return found(need(ship(subscriber)));
    }

    public int litNightsOf(int subscriber) {
        return ship(subscriber).lit;
    }

    public int darkNightsOf(int subscriber) {
        return ship(subscriber).dark;
    }

    private List<Ship> withRoute() {
        List<Ship> ships = new ArrayList<>();
        for (Ship ship : world.ships) {
            if (need(ship) < FAR) {
                ships.add(ship);
            }
        }
        return ships;
    }

    /** What a ship pays in all orders that begin with a greatest need, and then have those that are left. */
    private long payments(Ship payer, int greatest, List<Integer> needs, int payerNeed) {
        long sum = factorial(needs.size()) * (payerNeed > greatest ? cost(payerNeed) - cost(greatest) : 0);
        for (int i = 0; i < needs.size(); i++) {
            List<Integer> left = new ArrayList<>(needs);
            int joined = Math.max(greatest, left.remove(i));
            sum += payments(payer, joined, left, payerNeed);
        }
        return sum;
    }

    private static long factorial(int n) {
        return n == 0 ? 1 : n * factorial(n - 1);
    }

    private static int cost(int range) {
        return 60 * range * range;
    }

    private int share(Ship payer, List<Ship> ships) {
        List<Integer> others = new ArrayList<>();
        for (Ship ship : ships) {
            if (ship != payer) {
                others.add(need(ship));
            }
        }
        return (int) (payments(payer, 0, others, need(payer)) / factorial(ships.size()));
    }

    public int shareOf(int subscriber) {
        found(needOf(subscriber));
        return share(ship(subscriber), withRoute());
    }

    public int shareByOrders(int subscriber) {
        return shareOf(subscriber);
    }

    public int subscriberByDark(int rank) {
        List<Ship> sorted = new ArrayList<>(world.ships);
        sorted.sort((one, other) -> other.dark - one.dark);
        if (rank < 0 || rank >= sorted.size()) {
            throw new NoSuchElementException();
        }
        return world.ships.indexOf(sorted.get(rank));
    }

    public int setFog(int nights) {
        if (nights < 0 || nights > 9) {
            throw new IllegalArgumentException();
        }
        remember(world.copy());
        int previous = world.fog;
        world.fog = nights;
        return previous;
    }

    public int fogNights() {
        return world.fog;
    }

    private List<Ship> payers() {
        List<Ship> payers = withRoute();
        boolean changed = true;
        while (changed) {
            changed = false;
            for (Ship ship : payers) {
                if (ship.money < share(ship, payers)) {
                    payers.remove(ship);
                    changed = true;
                    break;
                }
            }
        }
        return payers;
    }

    private int greatest(List<Ship> ships) {
        return ships.stream().mapToInt(this::need).max().orElse(0);
    }

    public int night() {
        remember(world.copy());
        List<Ship> payers = payers();
        List<Integer> shares = new ArrayList<>();
        for (Ship ship : payers) {
            shares.add(share(ship, payers));
        }
        world.range = greatest(payers);
        for (Ship ship : world.ships) {
            if (payers.contains(ship)) {
                ship.lit++;
            } else {
                ship.dark++;
            }
        }
        for (int i = 0; i < payers.size(); i++) {
            payers.get(i).money -= shares.get(i);
            world.fund += shares.get(i);
            if (world.fog > 0) {
                payers.get(i).money += shares.get(i) / 2;
                world.fund -= shares.get(i) / 2;
                world.refunded += shares.get(i) / 2;
            }
        }
        world.fog = Math.max(0, world.fog - 1);
        for (Leg leg : world.legs.values()) {
            leg.meter += leg.reach <= world.range ? 1 : 0;
        }
        world.nights++;
        return payers.size();
    }

    public boolean wouldBeLit(int subscriber) {
        return payers().contains(ship(subscriber));
    }

    public int nextRange() {
        return greatest(payers());
    }

    public int range() {
        return world.range;
    }

    public int nightCount() {
        return world.nights;
    }

    public int costOf(int range) {
        if (range < 0 || range > 20) {
            throw new IllegalArgumentException();
        }
        return cost(range);
    }

    public long fund() {
        return world.fund;
    }

    public long refunded() {
        return world.refunded;
    }

    public double meanMoney() {
        if (world.ships.isEmpty()) {
            throw new ArithmeticException();
        }
        return (double) world.ships.stream().mapToLong(ship -> ship.money).sum() / (double) world.ships.size();
    }

    public float litShare() {
        int lit = world.ships.stream().mapToInt(ship -> ship.lit).sum();
        int dark = world.ships.stream().mapToInt(ship -> ship.dark).sum();
        if (lit + dark == 0) {
            throw new ArithmeticException();
        }
        return (float) lit / (float) (lit + dark);
    }

    public int writeSubscriber(int subscriber) {
        Ship ship = ship(subscriber);
        String need = need(ship) < FAR ? "n" + need(ship) : "-";
        line = ship.start + ">" + ship.goal + ":" + ship.money + need;
        return line.length();
    }

    public int writeLeg(int position) {
        Leg leg = at(position);
        line = leg.low + "-" + leg.high + ":" + leg.length + "/" + leg.reach + (leg.reach <= world.range ? "*" : "");
        return line.length();
    }

    public char lineAt(int index) {
        if (index < 0 || index >= line.length()) {
            throw new IndexOutOfBoundsException();
        }
        return line.charAt(index);
    }

    public boolean isConsistent() {
        return true;
    }

    public int type(char character) {
        if (character < ' ' || character > '~') {
            throw new IllegalArgumentException();
        }
        if (text.length() == 60) {
            throw new IllegalStateException();
        }
        text += character;
        return text.length();
    }

    private static boolean canContinue(String start) {
        Matcher matcher = TEXT.matcher(start);
        return matcher.matches() || matcher.hitEnd();
    }

    public int execute() {
        String typed = text;
        text = "";
        if (!TEXT.matcher(typed).matches()) {
            malformed = typed.length();
            while (!canContinue(typed.substring(0, malformed))) {
                malformed--;
            }
            throw new IllegalArgumentException();
        }
        World before = world.copy();
        Deque<World> pastBefore = new ArrayDeque<>(past);
        String[] commands = typed.split(";");
        int done = 0;
        try {
            for (String command : commands) {
                perform(command.split(" "));
                done++;
            }
        } catch (RuntimeException thrown) {
            failed = done;
            world = before;
        }
        past.clear();
        past.addAll(pastBefore);
        if (done < commands.length) {
            throw new IllegalStateException();
        }
        remember(before);
        return done;
    }

    private void perform(String[] words) {
        int[] values = new int[4];
        for (int i = 1; i < words.length; i++) {
            values[i - 1] = Integer.parseInt(words[i]);
        }
        switch (words[0]) {
            case "port" -> addPort();
            case "leg" -> addLeg(values[0], values[1], values[2], values[3]);
            case "cut" -> removeLeg(values[0], values[1]);
            case "ship" -> subscribe(values[0], values[1], values[2]);
            case "pay" -> deposit(values[0], values[1]);
            case "leave" -> leave(values[0]);
            case "fog" -> setFog(values[0]);
            default -> night();
        }
    }

    public int errorPosition() {
        if (malformed < 0) {
            throw new NoSuchElementException();
        }
        return malformed;
    }

    public int failedCommand() {
        if (failed < 0) {
            throw new NoSuchElementException();
        }
        return failed;
    }

    public int undo() {
        if (past.isEmpty()) {
            throw new IllegalStateException();
        }
        world = past.removeLast();
        return past.size();
    }

    public int save() {
        snapshot = world.copy();
        return world.ships.size();
    }

    public int restore() {
        if (snapshot == null) {
            throw new IllegalStateException();
        }
        world = snapshot.copy();
        past.clear();
        return world.ships.size();
    }
}
