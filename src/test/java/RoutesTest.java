import java.util.NoSuchElementException;

/** Promises 14 to 19: distances, needed ranges and groups. */
public final class RoutesTest {
    private static final Class<IndexOutOfBoundsException> INDEX = IndexOutOfBoundsException.class;
    private static final Class<IllegalArgumentException> ARGUMENT = IllegalArgumentException.class;
    private static final Class<NoSuchElementException> ELEMENT = NoSuchElementException.class;
    private static final Check CHECK = new Check("RoutesTest");

    public static void main(String[] args) {
        promises14And15Distance();
        promises14And15LongChain();
        promise16LitDistance();
        promises17And18Need();
        promise19Groups();
        wrongPorts();
        CHECK.end();
    }

    private static void promises14And15Distance() {
        HarborLights lights = Harbors.withChart();
        int[][] due = {{0, 10, 18, 11}, {10, 0, 8, 1}, {18, 8, 0, 7}, {11, 1, 7, 0}};
        for (int from = 0; from < 4; from++) {
            for (int to = 0; to < 4; to++) {
                CHECK.equal("distance", lights.distance(from, to), due[from][to]);
                CHECK.equal("distanceByRounds", lights.distanceByRounds(from, to), due[from][to]);
            }
        }
        CHECK.equal("same port without legs", lights.distance(4, 4), 0);
        CHECK.equal("same port without legs by rounds", lights.distanceByRounds(4, 4), 0);
        CHECK.fails("no route", ELEMENT, () -> lights.distance(4, 0));
        CHECK.fails("no route by rounds", ELEMENT, () -> lights.distanceByRounds(0, 4));
    }

    /** The legs stand in the order against the route, so each round finds one port only. */
    private static void promises14And15LongChain() {
        HarborLights lights = Harbors.withPorts(10);
        for (int port = 0; port < 9; port++) {
            lights.addLeg(port, port + 1, 10, 20 - port);
        }
        lights.addLeg(0, 9, 91, 1);
        CHECK.equal("by the chain", lights.distance(0, 9), 90);
        CHECK.equal("by the chain, by rounds", lights.distanceByRounds(0, 9), 90);
        CHECK.equal("back", lights.distance(9, 0), 90);
        CHECK.equal("back, by rounds", lights.distanceByRounds(9, 0), 90);
        CHECK.equal("need by the direct leg", lights.neededRange(0, 9), 1);
        CHECK.equal("need by the direct leg, by trial", lights.neededRangeByTrial(0, 9), 1);
        CHECK.equal("need round about", lights.neededRange(1, 0), 19);
        CHECK.equal("need round about, by trial", lights.neededRangeByTrial(1, 0), 19);
        lights.removeLeg(0, 9);
        CHECK.equal("need by the chain", lights.neededRange(9, 0), 20);
        CHECK.equal("need by the chain, by trial", lights.neededRangeByTrial(9, 0), 20);
    }

    private static void promise16LitDistance() {
        HarborLights lights = Harbors.withShips();
        CHECK.fails("nothing is lit at first", ELEMENT, () -> lights.litDistance(0, 2));
        CHECK.equal("same port is always reached", lights.litDistance(4, 4), 0);
        lights.night();
        CHECK.equal("around the dark leg", lights.litDistance(0, 3), 37);
        CHECK.equal("back", lights.litDistance(3, 0), 37);
        CHECK.equal("lit", lights.litDistance(3, 1), 27);
        CHECK.equal("the distance is another", lights.distance(3, 1), 1);
        CHECK.fails("no route at all", ELEMENT, () -> lights.litDistance(0, 4));
    }

    private static void promises17And18Need() {
        HarborLights lights = Harbors.withChart();
        int[][] due = {{0, 3, 2, 9}, {3, 0, 3, 9}, {2, 3, 0, 9}, {9, 9, 9, 0}};
        for (int from = 0; from < 4; from++) {
            for (int to = 0; to < 4; to++) {
                if (from != to) {
                    CHECK.equal("neededRange", lights.neededRange(from, to), due[from][to]);
                    CHECK.equal("neededRangeByTrial", lights.neededRangeByTrial(from, to), due[from][to]);
                }
            }
        }
        CHECK.fails("same port", ARGUMENT, () -> lights.neededRange(1, 1));
        CHECK.fails("same port by trial", ARGUMENT, () -> lights.neededRangeByTrial(1, 1));
        CHECK.fails("same port without legs", ARGUMENT, () -> lights.neededRange(4, 4));
        CHECK.fails("same port without legs by trial", ARGUMENT, () -> lights.neededRangeByTrial(4, 4));
        CHECK.fails("no route", ELEMENT, () -> lights.neededRange(0, 4));
        CHECK.fails("no route by trial", ELEMENT, () -> lights.neededRangeByTrial(4, 0));
        CHECK.fails("no port comes before same port", INDEX, () -> lights.neededRange(5, 5));
        CHECK.fails("no port comes before same port, by trial", INDEX, () -> lights.neededRangeByTrial(-1, -1));
    }

    private static void promise19Groups() {
        HarborLights lights = Harbors.withShips();
        CHECK.equal("nothing is lit", lights.litGroups(), 5);
        lights.night();
        CHECK.equal("range 9", lights.litGroups(), 2);
        lights.addPort();
        CHECK.equal("a new port", lights.litGroups(), 3);
        lights.addLeg(4, 5, 1, 9);
        CHECK.equal("a lit leg joins two groups", lights.litGroups(), 2);
        lights.addLeg(3, 4, 1, 10);
        CHECK.equal("a dark leg does not", lights.litGroups(), 2);
        lights.leave(2);
        lights.night();
        CHECK.equal("range 3", lights.litGroups(), 4);
    }

    private static void wrongPorts() {
        HarborLights lights = Harbors.withChart();
        for (int port : new int[] {-1, 5, 10, Integer.MIN_VALUE, Integer.MAX_VALUE}) {
            CHECK.fails("distance from", INDEX, () -> lights.distance(port, 0));
            CHECK.fails("distance to", INDEX, () -> lights.distance(0, port));
            CHECK.fails("distance from and to", INDEX, () -> lights.distance(port, port));
            CHECK.fails("distanceByRounds from", INDEX, () -> lights.distanceByRounds(port, 0));
            CHECK.fails("distanceByRounds to", INDEX, () -> lights.distanceByRounds(0, port));
            CHECK.fails("litDistance from", INDEX, () -> lights.litDistance(port, 0));
            CHECK.fails("litDistance to", INDEX, () -> lights.litDistance(0, port));
            CHECK.fails("neededRange from", INDEX, () -> lights.neededRange(port, 0));
            CHECK.fails("neededRange to", INDEX, () -> lights.neededRange(0, port));
            CHECK.fails("neededRangeByTrial from", INDEX, () -> lights.neededRangeByTrial(port, 0));
            CHECK.fails("neededRangeByTrial to", INDEX, () -> lights.neededRangeByTrial(0, port));
        }
    }
}
