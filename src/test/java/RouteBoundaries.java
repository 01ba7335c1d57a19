import java.util.NoSuchElementException;

/** The boundary cases of routes: promises 14 to 19, and what the terms say of light. */
final class RouteBoundaries {
    private static final Class<IllegalArgumentException> ARGUMENT = IllegalArgumentException.class;
    private static final Class<NoSuchElementException> ELEMENT = NoSuchElementException.class;

    private static final String NO_PORT =
            "Throws `IndexOutOfBoundsException` if there is no such port, for either";
    private static final String SAME_PORT = "Throws `IllegalArgumentException` if both are the same port";
    private static final String NO_ROUTE = "Throws `NoSuchElementException` if there is no route";
    private static final String LENGTH = "Returns the length, 0 if both are the same port.";
    private static final String ANOTHER = "- `to`: number of another port";

    private RouteBoundaries() {
    }

    static void run(Sentences sentences) {
        terms(sentences);
        sentences.test(14, "Returns the length of a shortest route, by going on from the nearest port.",
                RouteBoundaries::longestRoute);
        sentences.test(14, LENGTH, check -> samePortIsNoWay(check, HarborLights::distance));
        sentences.test(14, NO_PORT, check -> Refusal.noSuchPort(check, HarborLights::distance));
        sentences.test(14, NO_ROUTE, check -> noRoute(check, HarborLights::distance));
        sentences.test(15, "Returns the same as distance, by looking at all legs until no length becomes shorter.",
                RouteBoundaries::mostRounds);
        sentences.test(15, "Returns the same as distance, by looking at all legs until no length becomes shorter.",
                check -> samePortIsNoWay(check, HarborLights::distanceByRounds));
        sentences.test(15, NO_PORT, check -> Refusal.noSuchPort(check, HarborLights::distanceByRounds));
        sentences.test(15, NO_ROUTE, check -> noRoute(check, HarborLights::distanceByRounds));
        sentences.test(16, LENGTH, check -> samePortIsNoWay(check, HarborLights::litDistance));
        sentences.test(16, NO_PORT, check -> Refusal.noSuchPort(check, HarborLights::litDistance));
        sentences.test(16, "Throws `NoSuchElementException` if there is no lit route", RouteBoundaries::noLitRoute);
        needs(sentences);
        String groups = "Returns the number of groups of ports that lit routes connect; a port without lit legs is a "
                + "group of its own.";
        sentences.test(19, groups, RouteBoundaries::portsWithoutLitLegs);
        sentences.test(19, groups, RouteBoundaries::noGroupsAndOneGroup);
    }

    private static void terms(Sentences sentences) {
        sentences.test("Terms", "The range of the light is from 0 to 20.", RouteBoundaries::leastAndGreatestRange);
        sentences.test("Terms", "A leg is lit if its reach is at most the range.", RouteBoundaries::reachAtTheRange);
        sentences.test("Terms", "A route is lit if all its legs are lit.", RouteBoundaries::oneDarkLeg);
        sentences.test("Terms", "The range that two different ports need is the least one for which there would be a "
                + "lit route between them.", RouteBoundaries::leastRange);
    }

    private static void needs(Sentences sentences) {
        sentences.test(17, ANOTHER, check -> anotherPort(check, HarborLights::neededRange));
        sentences.test(17, NO_PORT, check -> Refusal.noSuchPort(check, HarborLights::neededRange));
        sentences.test(17, SAME_PORT, check -> samePort(check, HarborLights::neededRange));
        sentences.test(17, NO_ROUTE, check -> noRoute(check, HarborLights::neededRange));
        sentences.test(18, "Returns the same as neededRange, by trying ranges and searching for a lit route.",
                RouteBoundaries::longestTrial);
        sentences.test(18, ANOTHER, check -> anotherPort(check, HarborLights::neededRangeByTrial));
        sentences.test(18, NO_PORT, check -> Refusal.noSuchPort(check, HarborLights::neededRangeByTrial));
        sentences.test(18, SAME_PORT, check -> samePort(check, HarborLights::neededRangeByTrial));
        sentences.test(18, NO_ROUTE, check -> noRoute(check, HarborLights::neededRangeByTrial));
    }

    /** One subscriber that pays for a range: 24000 grains for the greatest. */
    private static void light(HarborLights lights, int start, int goal) {
        lights.subscribe(start, goal, 9999);
        lights.deposit(0, 9999);
        lights.deposit(0, 9999);
        lights.night();
    }

    private static void leastAndGreatestRange(Check check) {
        HarborLights lights = Harbors.withPorts(2);
        check.equal("range at first", lights.range(), 0);
        lights.addLeg(0, 1, 1, 20);
        light(lights, 0, 1);
        check.equal("greatest range", lights.range(), 20);
        check.yes("a leg of reach 20", lights.isLit(0, 1));
        lights.night();
        check.equal("range without anybody", lights.range(), 0);
        check.no("a leg without light", lights.isLit(0, 1));
        HarborLights least = Harbors.withPorts(3);
        least.addLeg(0, 1, 1, 1);
        check.no("a leg of reach 1 at range 0", least.isLit(0, 1));
        light(least, 0, 1);
        check.equal("least range for somebody", least.range(), 1);
        check.yes("a leg of reach 1 at range 1", least.isLit(0, 1));
    }

    private static HarborLights atRangeNine() {
        HarborLights lights = Harbors.withPorts(4);
        lights.addLeg(0, 1, 1, 8);
        lights.addLeg(1, 2, 1, 9);
        lights.addLeg(2, 3, 1, 10);
        light(lights, 0, 2);
        return lights;
    }

    private static void reachAtTheRange(Check check) {
        HarborLights lights = atRangeNine();
        check.equal("range", lights.range(), 9);
        check.yes("reach 8", lights.isLit(0, 1));
        check.yes("reach 9", lights.isLit(1, 2));
        check.no("reach 10", lights.isLit(2, 3));
        lights.addLeg(0, 3, 1, 9);
        lights.addLeg(0, 2, 1, 10);
        check.yes("a new leg of reach 9", lights.isLit(0, 3));
        check.no("a new leg of reach 10", lights.isLit(0, 2));
    }

    private static void oneDarkLeg(Check check) {
        HarborLights lights = atRangeNine();
        check.equal("all legs are lit", lights.litDistance(0, 2), 2);
        check.fails("the last leg is dark", ELEMENT, () -> lights.litDistance(0, 3));
        check.fails("the first leg is dark", ELEMENT, () -> lights.litDistance(3, 0));
        check.fails("the only leg is dark", ELEMENT, () -> lights.litDistance(2, 3));
        lights.addLeg(0, 3, 99, 9);
        check.equal("a long way round that is lit", lights.litDistance(2, 3), 101);
    }

    private static void leastRange(Check check) {
        HarborLights lights = Harbors.withPorts(4);
        lights.addLeg(0, 1, 1, 20);
        check.equal("the greatest need", lights.neededRange(0, 1), 20);
        lights.addLeg(0, 2, 99, 7);
        lights.addLeg(2, 1, 99, 6);
        check.equal("the greatest reach of a better route", lights.neededRange(0, 1), 7);
        lights.addLeg(0, 3, 99, 1);
        lights.addLeg(3, 1, 99, 1);
        check.equal("the least need", lights.neededRange(0, 1), 1);
        HarborLights below = atRangeNine();
        check.equal("a need of 9", below.neededRange(0, 2), 9);
        check.equal("there is a lit route at 9", below.litDistance(0, 2), 2);
        below.leave(0);
        light(below, 0, 1);
        check.equal("a range of 8", below.range(), 8);
        check.fails("there is none at 8", ELEMENT, () -> below.litDistance(0, 2));
    }

    private static void samePortIsNoWay(Check check, Refusal.PairCall call) {
        HarborLights alone = Harbors.withPorts(1);
        check.equal("the only port", call.on(alone, 0, 0), 0);
        HarborLights lights = Harbors.withChart();
        for (int port = 0; port < 5; port++) {
            check.equal("the same port, " + port, call.on(lights, port, port), 0);
        }
        check.equal("the last of ten ports", call.on(Harbors.livedFull(), 9, 9), 0);
    }

    private static void noRoute(Check check, Refusal.PairCall call) {
        Refusal.check(check, "to a port without legs", ELEMENT, Harbors::lived, lights -> call.on(lights, 0, 4));
        Refusal.check(check, "from a port without legs", ELEMENT, Harbors::lived, lights -> call.on(lights, 4, 0));
        Refusal.check(check, "without legs", ELEMENT, () -> Harbors.withPorts(10), lights -> call.on(lights, 0, 9));
        Refusal.check(check, "between two charts", ELEMENT, RouteBoundaries::twoCharts,
                lights -> call.on(lights, 1, 2));
        check.yes("a route in each", call.on(twoCharts(), 0, 1) > 0 && call.on(twoCharts(), 2, 3) > 0);
    }

    private static HarborLights twoCharts() {
        HarborLights lights = Harbors.withPorts(4);
        lights.addLeg(0, 1, 5, 5);
        lights.addLeg(2, 3, 6, 6);
        return lights;
    }

    private static void longestRoute(Check check) {
        HarborLights lights = Harbors.withPorts(10);
        for (int port = 0; port < 9; port++) {
            lights.addLeg(port, port + 1, 99, 1 + port);
        }
        check.equal("nine legs of length 99", lights.distance(0, 9), 891);
        check.equal("nine legs back", lights.distance(9, 0), 891);
        lights.addLeg(0, 8, 1, 20);
        check.equal("a short leg and a long one", lights.distance(0, 9), 100);
        check.equal("the other way round", lights.distance(9, 1), 199);
        lights.removeLeg(0, 8);
        check.equal("nine legs again", lights.distance(0, 9), 891);
    }

    /** Each round finds one port only, so that as many rounds are needed as there may be. */
    private static void mostRounds(Check check) {
        HarborLights lights = Harbors.withPorts(10);
        for (int port = 0; port < 9; port++) {
            lights.addLeg(port, port + 1, 99, 20 - port);
        }
        check.equal("nine legs of length 99", lights.distance(0, 9), 891);
        check.equal("nine legs of length 99, by rounds", lights.distanceByRounds(0, 9), 891);
        check.equal("nine legs back", lights.distance(9, 0), 891);
        check.equal("nine legs back, by rounds", lights.distanceByRounds(9, 0), 891);
        lights.addLeg(0, 2, 99, 20);
        check.equal("a short cut", lights.distance(9, 0), 792);
        check.equal("a short cut, by rounds", lights.distanceByRounds(9, 0), 792);
    }

    private static void noLitRoute(Check check) {
        Refusal.check(check, "no route", ELEMENT, Harbors::lived, lights -> lights.litDistance(0, 4));
        Refusal.check(check, "no light", ELEMENT, Harbors::withShips, lights -> lights.litDistance(0, 2));
        Refusal.check(check, "a dark route", ELEMENT, RouteBoundaries::atRangeNine,
                lights -> lights.litDistance(0, 3));
        check.equal("a lit route", atRangeNine().litDistance(2, 0), 2);
    }

    private static void anotherPort(Check check, Refusal.PairCall call) {
        HarborLights lights = Harbors.full();
        for (int from = 0; from < 10; from++) {
            for (int to = 0; to < 10; to++) {
                int one = from;
                int other = to;
                if (from == to) {
                    check.fails("the same port", ARGUMENT, () -> call.on(lights, one, other));
                } else {
                    int due = from == 0 || to == 0 ? 3 : from > 1 && from < 6 && to > 1 && to < 6 ? 1 : 2;
                    check.equal("need of " + from + " and " + to, call.on(lights, from, to), due);
                }
            }
        }
    }

    private static void samePort(Check check, Refusal.PairCall call) {
        Refusal.numbers(check, ARGUMENT, Harbors::lived, (lights, port) -> call.on(lights, port, port), 0, 1, 2, 3, 4);
        Refusal.numbers(check, ARGUMENT, Harbors::livedFull, (lights, port) -> call.on(lights, port, port), 0, 9);
        Refusal.check(check, "the only port", ARGUMENT, () -> Harbors.withPorts(1), lights -> call.on(lights, 0, 0));
    }

    /** The route has as many legs as there may be, and the greatest reach comes last. */
    private static void longestTrial(Check check) {
        HarborLights lights = Harbors.withPorts(10);
        for (int port = 0; port < 9; port++) {
            lights.addLeg(port, port + 1, 1, 20 - port);
        }
        check.equal("need", lights.neededRange(9, 0), 20);
        check.equal("need by trial", lights.neededRangeByTrial(9, 0), 20);
        check.equal("need by trial, against the order of legs", lights.neededRangeByTrial(0, 9), 20);
        check.equal("need of the last two", lights.neededRangeByTrial(9, 8), 12);
        lights.addLeg(0, 9, 99, 1);
        check.equal("the least need by trial", lights.neededRangeByTrial(0, 9), 1);
        check.equal("need round about by trial", lights.neededRangeByTrial(0, 1), 19);
    }

    private static void portsWithoutLitLegs(Check check) {
        HarborLights lights = Harbors.withPorts(4);
        check.equal("no legs", lights.litGroups(), 4);
        lights.addLeg(0, 1, 1, 8);
        lights.addLeg(1, 2, 1, 9);
        lights.addLeg(2, 3, 1, 10);
        check.equal("no lit legs", lights.litGroups(), 4);
        light(lights, 0, 1);
        check.equal("one lit leg", lights.litGroups(), 3);
        check.equal("a port with a dark leg", atRangeNine().litGroups(), 2);
    }

    private static void noGroupsAndOneGroup(Check check) {
        check.equal("no ports", new HarborLights().litGroups(), 0);
        check.equal("one port", Harbors.withPorts(1).litGroups(), 1);
        check.equal("ten ports without light", Harbors.full().litGroups(), 10);
        HarborLights lights = Harbors.livedFull();
        check.equal("ten ports with 20 lit legs", lights.litGroups(), 1);
        HarborLights circle = Harbors.withPorts(3);
        circle.addLeg(0, 1, 1, 1);
        circle.addLeg(1, 2, 1, 1);
        circle.addLeg(2, 0, 1, 1);
        light(circle, 0, 1);
        check.equal("a circle of lit legs", circle.litGroups(), 1);
    }
}
