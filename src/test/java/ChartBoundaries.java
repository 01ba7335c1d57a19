import java.util.NoSuchElementException;

/** The boundary cases of the chart: promises 1 to 13, and what the terms say of ports and legs. */
final class ChartBoundaries {
    private static final Class<IndexOutOfBoundsException> INDEX = IndexOutOfBoundsException.class;
    private static final Class<IllegalArgumentException> ARGUMENT = IllegalArgumentException.class;
    private static final Class<IllegalStateException> STATE = IllegalStateException.class;
    private static final Class<NoSuchElementException> ELEMENT = NoSuchElementException.class;

    private static final String NO_PORT =
            "Throws `IndexOutOfBoundsException` if there is no such port, for either";
    private static final String NO_LEG = "Throws `NoSuchElementException` if there is no leg between them";
    private static final String POSITION = "- `position`: the position, from 0";
    private static final String NO_POSITION = "Throws `IndexOutOfBoundsException` if there is no such position";

    private ChartBoundaries() {
    }

    static void run(Sentences sentences) {
        terms(sentences);
        ports(sentences);
        legs(sentences);
        sentences.test(7, NO_PORT,
                check -> Refusal.noSuchPort(check, (lights, from, to) -> lights.hasLeg(from, to) ? 1 : 0));
        sentences.test(8, NO_PORT, check -> Refusal.noSuchPort(check, HarborLights::lengthOf));
        sentences.test(8, NO_LEG, check -> noLeg(check, HarborLights::lengthOf));
        sentences.test(9, NO_PORT, check -> Refusal.noSuchPort(check, HarborLights::reachOf));
        sentences.test(9, NO_LEG, check -> noLeg(check, HarborLights::reachOf));
        sentences.test(10, NO_PORT, check -> Refusal.noSuchPort(check, HarborLights::meterOf));
        sentences.test(10, NO_LEG, check -> noLeg(check, HarborLights::meterOf));
        sentences.test(11, NO_PORT,
                check -> Refusal.noSuchPort(check, (lights, from, to) -> lights.isLit(from, to) ? 1 : 0));
        sentences.test(11, NO_LEG, check -> noLeg(check, (lights, from, to) -> lights.isLit(from, to) ? 1 : 0));
        sentences.test(12, POSITION, ChartBoundaries::firstAndLastLower);
        sentences.test(12, NO_POSITION, check -> Refusal.noSuchPosition(check, HarborLights::lowerPortAt));
        sentences.test(13, POSITION, ChartBoundaries::firstAndLastUpper);
        sentences.test(13, NO_POSITION, check -> Refusal.noSuchPosition(check, HarborLights::upperPortAt));
    }

    private static void terms(Sentences sentences) {
        String legs = "At most 20 legs connect ports; there is at most one leg between two different ports, and it can "
                + "be used in both directions.";
        sentences.test("Terms", "There are at most 10 ports, numbered from 0 in the order in which they were added.",
                ChartBoundaries::tenPortsFromZero);
        sentences.test("Terms", legs, ChartBoundaries::atMostTwentyLegs);
        sentences.test("Terms", legs, ChartBoundaries::atMostOneLegBetweenTwo);
        sentences.test("Terms", legs, ChartBoundaries::bothDirections);
        sentences.test("Terms", "A leg has a length from 1 to 99 and a reach from 1 to 20.",
                ChartBoundaries::leastAndGreatestLeg);
        sentences.test("Terms", "The legs are ordered by their reach, then by their length, then by their port with "
                + "the lower number, then by their other port.", ChartBoundaries::orderOfTies);
        sentences.test("Terms", "A leg that is added again after it was removed begins with a meter of 0.",
                ChartBoundaries::addedAgain);
    }

    private static void ports(Sentences sentences) {
        sentences.test(1, "Creates a syndicate with a chart without ports, without subscribers and fog, at night 0, "
                + "with range 0.", ChartBoundaries::newObject);
        sentences.test(2, "Throws `IllegalStateException` if there are 10 ports", ChartBoundaries::elevenPorts);
    }

    private static void legs(Sentences sentences) {
        String argument = "Throws `IllegalArgumentException` if both are the same port, or a number is out of range";
        String state = "Throws `IllegalStateException` if there are 20 legs, or there is a leg between them";
        sentences.test(3, "- `to`: number of another port", ChartBoundaries::anotherPort);
        sentences.test(3, "- `length`: its length, 1 to 99", ChartBoundaries::lengths);
        sentences.test(3, "- `reach`: its reach, 1 to 20", ChartBoundaries::reaches);
        sentences.test(3, NO_PORT,
                check -> Refusal.noSuchPort(check, (lights, from, to) -> lights.addLeg(from, to, 1, 1)));
        sentences.test(3, argument, ChartBoundaries::legToTheSamePort);
        sentences.test(3, argument, ChartBoundaries::lengthOutOfRange);
        sentences.test(3, argument, ChartBoundaries::reachOutOfRange);
        sentences.test(3, state, ChartBoundaries::twentyOneLegs);
        sentences.test(3, state, ChartBoundaries::legThatIsThere);
        sentences.test(4, "- `to`: number of another port", check -> Refusal.numbers(check, ELEMENT, Harbors::lived,
                (lights, port) -> lights.removeLeg(port, port), 0, 1, 2, 3, 4));
        sentences.test(4, NO_PORT, check -> Refusal.noSuchPort(check, HarborLights::removeLeg));
        sentences.test(4, NO_LEG, check -> noLeg(check, HarborLights::removeLeg));
        sentences.test(4, NO_LEG, ChartBoundaries::removedUntilNoneIsLeft);
    }

    private static void tenPortsFromZero(Check check) {
        HarborLights lights = new HarborLights();
        for (int port = 0; port < 10; port++) {
            check.equal("ports before", lights.portCount(), port);
            check.equal("number", lights.addPort(), port);
        }
        check.equal("ports", lights.portCount(), 10);
        check.equal("the first and the last are there", lights.addLeg(0, 9, 1, 1), 1);
        check.fails("an 11th", STATE, () -> lights.addPort());
        check.equal("still 10", lights.portCount(), 10);
    }

    private static void atMostTwentyLegs(Check check) {
        HarborLights lights = Harbors.full();
        check.equal("legs", lights.legCount(), 20);
        check.fails("a 21st", STATE, () -> lights.addLeg(8, 9, 1, 1));
        check.equal("still 20", lights.legCount(), 20);
        lights.removeLeg(0, 1);
        check.equal("19 are left", lights.legCount(), 19);
        check.equal("a 20th again", lights.addLeg(8, 9, 1, 1), 20);
        check.fails("a 21st again", STATE, () -> lights.addLeg(0, 1, 1, 1));
    }

    private static void atMostOneLegBetweenTwo(Check check) {
        HarborLights lights = Harbors.withPorts(2);
        lights.addLeg(0, 1, 5, 5);
        check.fails("a second one", STATE, () -> lights.addLeg(0, 1, 6, 6));
        check.fails("a second one back", STATE, () -> lights.addLeg(1, 0, 6, 6));
        check.equal("legs", lights.legCount(), 1);
    }

    private static void bothDirections(Check check) {
        HarborLights lights = Harbors.withMoneys(960);
        lights.night();
        check.yes("back", lights.hasLeg(1, 0) && lights.isLit(1, 0));
        check.equal("length back", lights.lengthOf(1, 0), 9);
        check.equal("reach back", lights.reachOf(1, 0), 4);
        check.equal("meter back", lights.meterOf(1, 0), 1);
        check.equal("distance back", lights.distance(1, 0), 9);
        check.equal("distance back by rounds", lights.distanceByRounds(1, 0), 9);
        check.equal("lit distance back", lights.litDistance(1, 0), 9);
        check.equal("need back", lights.neededRange(1, 0), 4);
        check.equal("need back by trial", lights.neededRangeByTrial(1, 0), 4);
        check.equal("a subscriber back", lights.subscribe(1, 0, 0), 1);
        check.equal("removed back", lights.removeLeg(1, 0), 9);
    }

    private static void leastAndGreatestLeg(Check check) {
        HarborLights lights = Harbors.withPorts(3);
        lights.addLeg(0, 1, 1, 1);
        lights.addLeg(1, 2, 99, 20);
        check.equal("least length", lights.lengthOf(0, 1), 1);
        check.equal("least reach", lights.reachOf(0, 1), 1);
        check.equal("greatest length", lights.lengthOf(1, 2), 99);
        check.equal("greatest reach", lights.reachOf(1, 2), 20);
        check.fails("length 0", ARGUMENT, () -> lights.addLeg(0, 2, 0, 1));
        check.fails("length 100", ARGUMENT, () -> lights.addLeg(0, 2, 100, 1));
        check.fails("reach 0", ARGUMENT, () -> lights.addLeg(0, 2, 1, 0));
        check.fails("reach 21", ARGUMENT, () -> lights.addLeg(0, 2, 1, 21));
    }

    /** Each leg differs from the one before it only by the next thing that the order looks at. */
    private static void orderOfTies(Check check) {
        int[][] legs = {{2, 3, 5, 4}, {0, 1, 6, 4}, {0, 2, 6, 4}, {1, 2, 6, 4}, {1, 3, 7, 4}, {0, 3, 1, 5}};
        for (int first = 0; first < legs.length; first++) {
            for (int step : new int[] {1, legs.length - 1}) {
                HarborLights lights = Harbors.withPorts(4);
                for (int i = 0; i < legs.length; i++) {
                    int[] leg = legs[(first + i * step) % legs.length];
                    lights.addLeg(leg[1], leg[0], leg[2], leg[3]);
                }
                for (int i = 0; i < legs.length; i++) {
                    check.equal("lower port at " + i, lights.lowerPortAt(i), legs[i][0]);
                    check.equal("upper port at " + i, lights.upperPortAt(i), legs[i][1]);
                }
            }
        }
    }

    private static void addedAgain(Check check) {
        HarborLights lights = Harbors.lived();
        check.equal("meter before", lights.meterOf(0, 2), 1);
        lights.removeLeg(0, 2);
        lights.addLeg(0, 2, 50, 2);
        check.equal("the same leg again", lights.meterOf(0, 2), 0);
        check.equal("another leg", lights.meterOf(1, 2), 1);
        lights.night();
        check.equal("a night later", lights.meterOf(0, 2), 1);
        check.equal("another leg a night later", lights.meterOf(1, 2), 2);
        lights.addLeg(3, 4, 1, 1);
        check.equal("a new leg before all others", lights.meterOf(3, 4), 0);
        check.equal("another leg that it moved", lights.meterOf(1, 2), 2);
        lights.removeLeg(1, 2);
        lights.addLeg(2, 1, 99, 20);
        check.equal("as another leg between the two", lights.meterOf(1, 2), 0);
        check.equal("a leg that it moved back", lights.meterOf(0, 1), 2);
        check.equal("the leg that was never lit", lights.meterOf(1, 3), 0);
    }

    private static void newObject(Check check) {
        HarborLights lights = new HarborLights();
        check.equal("ports", lights.portCount(), 0);
        check.equal("legs", lights.legCount(), 0);
        check.equal("groups", lights.litGroups(), 0);
        check.equal("subscribers", lights.subscriberCount(), 0);
        check.equal("fog", lights.fogNights(), 0);
        check.equal("night", lights.nightCount(), 0);
        check.equal("range", lights.range(), 0);
        check.equal("next range", lights.nextRange(), 0);
        check.equal("fund", lights.fund(), 0);
        check.equal("refunded", lights.refunded(), 0);
        check.yes("consistent", lights.isConsistent());
        check.fails("a line", INDEX, () -> lights.lineAt(0));
        check.fails("a leg", INDEX, () -> lights.lowerPortAt(0));
        check.fails("something to undo", STATE, () -> lights.undo());
        check.fails("a snapshot", STATE, () -> lights.restore());
        check.equal("the buffer is empty", lights.type('x'), 1);
    }

    private static void elevenPorts(Check check) {
        Refusal.check(check, "an 11th port", STATE, () -> Harbors.withPorts(10), HarborLights::addPort);
        Refusal.check(check, "an 11th port of a full chart", STATE, Harbors::livedFull, HarborLights::addPort);
        HarborLights lights = Harbors.withPorts(9);
        check.equal("the 10th", lights.addPort(), 9);
        lights.undo();
        check.equal("the 10th again", lights.addPort(), 9);
    }

    private static void anotherPort(Check check) {
        for (int from = 0; from < 3; from++) {
            for (int to = 0; to < 3; to++) {
                HarborLights lights = Harbors.withPorts(3);
                int one = from;
                int other = to;
                if (from == to) {
                    check.fails("the same port", ARGUMENT, () -> lights.addLeg(one, other, 1, 1));
                } else {
                    check.equal("another port", lights.addLeg(one, other, 1, 1), 1);
                }
            }
        }
    }

    private static void lengths(Check check) {
        for (int length : new int[] {1, 2, 50, 98, 99}) {
            HarborLights lights = Harbors.withPorts(2);
            check.equal("a leg of length " + length, lights.addLeg(0, 1, length, 7), 1);
            check.equal("length", lights.lengthOf(0, 1), length);
        }
    }

    private static void reaches(Check check) {
        for (int reach = 1; reach <= 20; reach++) {
            HarborLights lights = Harbors.withPorts(2);
            check.equal("a leg of reach " + reach, lights.addLeg(0, 1, 7, reach), 1);
            check.equal("reach", lights.reachOf(0, 1), reach);
        }
    }

    private static void legToTheSamePort(Check check) {
        Refusal.numbers(check, ARGUMENT, Harbors::lived, (lights, port) -> lights.addLeg(port, port, 1, 1), 0, 1, 4);
        Refusal.check(check, "the same port of a full chart", ARGUMENT, Harbors::livedFull,
                lights -> lights.addLeg(9, 9, 1, 1));
    }

    private static void lengthOutOfRange(Check check) {
        Refusal.numbers(check, ARGUMENT, Harbors::lived, (lights, length) -> lights.addLeg(0, 4, length, 1), 0, -1, 100,
                Integer.MIN_VALUE, Integer.MAX_VALUE);
    }

    private static void reachOutOfRange(Check check) {
        Refusal.numbers(check, ARGUMENT, Harbors::lived, (lights, reach) -> lights.addLeg(0, 4, 1, reach), 0, -1, 21,
                Integer.MIN_VALUE, Integer.MAX_VALUE);
    }

    private static void twentyOneLegs(Check check) {
        Refusal.check(check, "a 21st leg", STATE, Harbors::livedFull, lights -> lights.addLeg(8, 9, 1, 1));
        HarborLights lights = Harbors.full();
        lights.removeLeg(2, 5);
        check.equal("a 20th leg", lights.addLeg(5, 2, 1, 1), 20);
    }

    private static void legThatIsThere(Check check) {
        Refusal.check(check, "a leg that is there", STATE, Harbors::lived, lights -> lights.addLeg(0, 2, 1, 1));
        Refusal.check(check, "a leg that is there, back", STATE, Harbors::lived, lights -> lights.addLeg(2, 0, 1, 1));
        Refusal.check(check, "the last leg", STATE, Harbors::lived, lights -> lights.addLeg(1, 3, 1, 12));
    }

    private static void noLeg(Check check, Refusal.PairCall call) {
        Refusal.check(check, "to a port without legs", ELEMENT, Harbors::lived, lights -> call.on(lights, 0, 4));
        Refusal.check(check, "from a port without legs", ELEMENT, Harbors::lived, lights -> call.on(lights, 4, 0));
        Refusal.check(check, "with a route but no leg", ELEMENT, Harbors::lived, lights -> call.on(lights, 0, 3));
        Refusal.check(check, "the same port", ELEMENT, Harbors::lived, lights -> call.on(lights, 2, 2));
        Refusal.check(check, "without any legs", ELEMENT, () -> Harbors.withPorts(2), lights -> call.on(lights, 0, 1));
        Refusal.check(check, "between others than 20 legs", ELEMENT, Harbors::livedFull,
                lights -> call.on(lights, 8, 9));
        Refusal.check(check, "a leg that was removed", ELEMENT, () -> {
            HarborLights lights = Harbors.lived();
            lights.removeLeg(1, 3);
            return lights;
        }, lights -> call.on(lights, 3, 1));
    }

    private static void removedUntilNoneIsLeft(Check check) {
        HarborLights lights = Harbors.full();
        for (int left = 19; left >= 0; left--) {
            int low = lights.lowerPortAt(left % 2 * left);
            int high = lights.upperPortAt(left % 2 * left);
            int length = lights.lengthOf(low, high);
            check.equal("removeLeg", lights.removeLeg(high, low), length);
            check.equal("legs", lights.legCount(), left);
            check.fails("removed already", ELEMENT, () -> lights.removeLeg(low, high));
        }
    }

    private static void firstAndLastLower(Check check) {
        HarborLights lights = Harbors.withChart();
        check.equal("at 0", lights.lowerPortAt(0), 0);
        check.equal("at 1", lights.lowerPortAt(1), 1);
        check.equal("at 4, the last", lights.lowerPortAt(4), 1);
        HarborLights full = Harbors.full();
        check.equal("at 0 of 20", full.lowerPortAt(0), 2);
        check.equal("at 19 of 20", full.lowerPortAt(19), 0);
    }

    private static void firstAndLastUpper(Check check) {
        HarborLights lights = Harbors.withChart();
        check.equal("at 0", lights.upperPortAt(0), 2);
        check.equal("at 2", lights.upperPortAt(2), 1);
        check.equal("at 4, the last", lights.upperPortAt(4), 3);
        HarborLights full = Harbors.full();
        check.equal("at 0 of 20", full.upperPortAt(0), 3);
        check.equal("at 19 of 20", full.upperPortAt(19), 9);
    }
}
