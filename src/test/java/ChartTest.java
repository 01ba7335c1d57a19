import java.util.NoSuchElementException;

/** Promises 1 to 13: a new object, ports and legs. */
public final class ChartTest {
    private static final Class<IndexOutOfBoundsException> INDEX = IndexOutOfBoundsException.class;
    private static final Class<IllegalArgumentException> ARGUMENT = IllegalArgumentException.class;
    private static final Class<IllegalStateException> STATE = IllegalStateException.class;
    private static final Class<NoSuchElementException> ELEMENT = NoSuchElementException.class;
    private static final Check CHECK = new Check("ChartTest");

    public static void main(String[] args) {
        promise1NewObject();
        promise2AddPort();
        promise3AddLeg();
        promise3Limits();
        promise4RemoveLeg();
        promises5And6Counts();
        promises7To9Leg();
        promise10Meter();
        promise10MetersMoveWithLegs();
        promise11IsLit();
        promises12And13Order();
        CHECK.end();
    }

    private static void promise1NewObject() {
        HarborLights lights = new HarborLights();
        CHECK.equal("ports", lights.portCount(), 0);
        CHECK.equal("legs", lights.legCount(), 0);
        CHECK.equal("subscribers", lights.subscriberCount(), 0);
        CHECK.equal("fog", lights.fogNights(), 0);
        CHECK.equal("nights", lights.nightCount(), 0);
        CHECK.equal("range", lights.range(), 0);
        CHECK.equal("next range", lights.nextRange(), 0);
        CHECK.equal("fund", lights.fund(), 0);
        CHECK.equal("refunded", lights.refunded(), 0);
        CHECK.equal("groups", lights.litGroups(), 0);
        CHECK.yes("consistent", lights.isConsistent());
        CHECK.fails("line", INDEX, () -> lights.lineAt(0));
        CHECK.fails("undo", STATE, () -> lights.undo());
        CHECK.fails("restore", STATE, () -> lights.restore());
        CHECK.fails("errorPosition", ELEMENT, () -> lights.errorPosition());
        CHECK.fails("failedCommand", ELEMENT, () -> lights.failedCommand());
        lights.addPort();
        CHECK.equal("another object has its own ports", new HarborLights().portCount(), 0);
    }

    private static void promise2AddPort() {
        HarborLights lights = new HarborLights();
        for (int port = 0; port < 10; port++) {
            CHECK.equal("addPort", lights.addPort(), port);
        }
        CHECK.fails("an 11th port", STATE, () -> lights.addPort());
        CHECK.equal("ports after a refused one", lights.portCount(), 10);
    }

    private static void promise3AddLeg() {
        HarborLights lights = Harbors.withPorts(3);
        CHECK.fails("from -1", INDEX, () -> lights.addLeg(-1, 0, 1, 1));
        CHECK.fails("to -1", INDEX, () -> lights.addLeg(0, -1, 1, 1));
        CHECK.fails("from 3", INDEX, () -> lights.addLeg(3, 0, 1, 1));
        CHECK.fails("to 3", INDEX, () -> lights.addLeg(0, 3, 1, 1));
        CHECK.fails("to the greatest number", INDEX, () -> lights.addLeg(0, Integer.MAX_VALUE, 1, 1));
        CHECK.fails("from the least number", INDEX, () -> lights.addLeg(Integer.MIN_VALUE, 0, 1, 1));
        CHECK.fails("no port comes before same port", INDEX, () -> lights.addLeg(3, 3, 0, 0));
        CHECK.fails("same port", ARGUMENT, () -> lights.addLeg(1, 1, 1, 1));
        CHECK.fails("length 0", ARGUMENT, () -> lights.addLeg(0, 1, 0, 1));
        CHECK.fails("length 100", ARGUMENT, () -> lights.addLeg(0, 1, 100, 1));
        CHECK.fails("reach 0", ARGUMENT, () -> lights.addLeg(0, 1, 1, 0));
        CHECK.fails("reach 21", ARGUMENT, () -> lights.addLeg(0, 1, 1, 21));
        CHECK.equal("no legs after refused ones", lights.legCount(), 0);
        CHECK.equal("least numbers", lights.addLeg(0, 1, 1, 1), 1);
        CHECK.equal("greatest numbers", lights.addLeg(2, 1, 99, 20), 2);
        CHECK.fails("twice", STATE, () -> lights.addLeg(0, 1, 5, 5));
        CHECK.fails("twice in the other direction", STATE, () -> lights.addLeg(1, 0, 5, 5));
        CHECK.fails("a number out of range comes before a leg that is there", ARGUMENT,
                () -> lights.addLeg(0, 1, 100, 5));
        CHECK.equal("length stays", lights.lengthOf(0, 1), 1);
    }

    private static void promise3Limits() {
        HarborLights lights = Harbors.withPorts(10);
        int legs = 0;
        for (int from = 0; from < 10 && legs < 20; from++) {
            for (int to = from + 1; to < 10 && legs < 20; to++) {
                legs++;
                CHECK.equal("addLeg", lights.addLeg(from, to, 1 + to, 1 + from), legs);
            }
        }
        CHECK.fails("a 21st leg", STATE, () -> lights.addLeg(8, 9, 1, 1));
        CHECK.fails("same port comes before 20 legs", ARGUMENT, () -> lights.addLeg(8, 8, 1, 1));
        CHECK.equal("20 legs", lights.legCount(), 20);
        CHECK.no("the refused leg", lights.hasLeg(8, 9));
        CHECK.yes("consistent with 20 legs", lights.isConsistent());
        lights.removeLeg(0, 1);
        CHECK.equal("a leg in place of another", lights.addLeg(8, 9, 1, 1), 20);
    }

    private static void promise4RemoveLeg() {
        HarborLights lights = Harbors.withChart();
        CHECK.fails("from 5", INDEX, () -> lights.removeLeg(5, 0));
        CHECK.fails("to 5", INDEX, () -> lights.removeLeg(0, 5));
        CHECK.fails("from -1", INDEX, () -> lights.removeLeg(-1, 0));
        CHECK.fails("to -1", INDEX, () -> lights.removeLeg(0, -1));
        CHECK.fails("no leg", ELEMENT, () -> lights.removeLeg(0, 4));
        CHECK.fails("same port", ELEMENT, () -> lights.removeLeg(0, 0));
        CHECK.equal("legs after refused ones", lights.legCount(), 5);
        CHECK.equal("removeLeg", lights.removeLeg(2, 0), 50);
        CHECK.equal("legs", lights.legCount(), 4);
        CHECK.no("removed", lights.hasLeg(0, 2));
        CHECK.fails("removed already", ELEMENT, () -> lights.removeLeg(0, 2));
        CHECK.equal("a leg that stays", lights.lengthOf(2, 3), 7);
        CHECK.equal("another", lights.removeLeg(0, 1), 10);
        CHECK.equal("order after removals", order(lights), "1-2:20/3 2-3:7/9 1-3:1/12 ");
    }

    private static void promises5And6Counts() {
        HarborLights lights = Harbors.withChart();
        CHECK.equal("portCount", lights.portCount(), 5);
        CHECK.equal("legCount", lights.legCount(), 5);
        lights.addPort();
        lights.addLeg(5, 4, 1, 1);
        CHECK.equal("portCount", lights.portCount(), 6);
        CHECK.equal("legCount", lights.legCount(), 6);
        lights.removeLeg(4, 5);
        CHECK.equal("ports stay", lights.portCount(), 6);
        CHECK.equal("legCount", lights.legCount(), 5);
    }

    private static void promises7To9Leg() {
        HarborLights lights = Harbors.withChart();
        CHECK.yes("hasLeg", lights.hasLeg(1, 3));
        CHECK.yes("hasLeg in the other direction", lights.hasLeg(3, 1));
        CHECK.no("no leg", lights.hasLeg(0, 3));
        CHECK.no("same port", lights.hasLeg(0, 0));
        CHECK.equal("lengthOf", lights.lengthOf(0, 2), 50);
        CHECK.equal("lengthOf in the other direction", lights.lengthOf(2, 0), 50);
        CHECK.equal("reachOf", lights.reachOf(0, 2), 2);
        CHECK.equal("reachOf in the other direction", lights.reachOf(3, 1), 12);
        CHECK.fails("lengthOf no leg", ELEMENT, () -> lights.lengthOf(0, 3));
        CHECK.fails("lengthOf same port", ELEMENT, () -> lights.lengthOf(1, 1));
        CHECK.fails("reachOf no leg", ELEMENT, () -> lights.reachOf(0, 3));
        CHECK.fails("reachOf same port", ELEMENT, () -> lights.reachOf(1, 1));
        for (int port : new int[] {-1, 5, Integer.MIN_VALUE, Integer.MAX_VALUE}) {
            CHECK.fails("hasLeg from", INDEX, () -> lights.hasLeg(port, 0) ? 1 : 0);
            CHECK.fails("hasLeg to", INDEX, () -> lights.hasLeg(0, port) ? 1 : 0);
            CHECK.fails("lengthOf from", INDEX, () -> lights.lengthOf(port, 0));
            CHECK.fails("lengthOf to", INDEX, () -> lights.lengthOf(0, port));
            CHECK.fails("reachOf from", INDEX, () -> lights.reachOf(port, 0));
            CHECK.fails("reachOf to", INDEX, () -> lights.reachOf(0, port));
            CHECK.fails("meterOf from", INDEX, () -> lights.meterOf(port, 0));
            CHECK.fails("meterOf to", INDEX, () -> lights.meterOf(0, port));
            CHECK.fails("isLit from", INDEX, () -> lights.isLit(port, 0) ? 1 : 0);
            CHECK.fails("isLit to", INDEX, () -> lights.isLit(0, port) ? 1 : 0);
        }
    }

    private static void promise10Meter() {
        HarborLights lights = Harbors.withShips();
        CHECK.equal("meter at first", lights.meterOf(0, 2), 0);
        lights.night();
        lights.night();
        CHECK.equal("lit twice", lights.meterOf(0, 2), 2);
        CHECK.equal("lit twice with reach 9", lights.meterOf(3, 2), 2);
        CHECK.equal("never lit", lights.meterOf(1, 3), 0);
        lights.night();
        CHECK.equal("lit with range 3", lights.meterOf(2, 1), 3);
        CHECK.equal("not lit with range 3", lights.meterOf(3, 2), 2);
        lights.removeLeg(0, 2);
        CHECK.equal("another leg keeps its meter", lights.meterOf(2, 1), 3);
        lights.addLeg(0, 2, 50, 2);
        CHECK.equal("added again", lights.meterOf(0, 2), 0);
        CHECK.equal("another leg keeps its meter still", lights.meterOf(2, 1), 3);
        CHECK.fails("no leg", ELEMENT, () -> lights.meterOf(0, 3));
        CHECK.fails("same port", ELEMENT, () -> lights.meterOf(3, 3));
    }

    private static void promise10MetersMoveWithLegs() {
        HarborLights lights = Harbors.withShips();
        for (int i = 0; i < 3; i++) {
            lights.night();
        }
        lights.subscribe(0, 2, 240);
        lights.night();
        checkMeters(lights, 4, 3, 2, 2, 0);
        lights.addLeg(3, 4, 1, 3);
        checkMeters(lights, 4, 0, 3, 2, 2, 0);
        lights.addLeg(2, 4, 1, 1);
        checkMeters(lights, 0, 4, 0, 3, 2, 2, 0);
        lights.removeLeg(0, 2);
        checkMeters(lights, 0, 0, 3, 2, 2, 0);
        lights.removeLeg(4, 3);
        checkMeters(lights, 0, 3, 2, 2, 0);
        lights.removeLeg(0, 1);
        checkMeters(lights, 0, 3, 2, 0);
    }

    private static void checkMeters(HarborLights lights, int... due) {
        for (int i = 0; i < due.length; i++) {
            CHECK.equal("meter at " + i, lights.meterOf(lights.lowerPortAt(i), lights.upperPortAt(i)), due[i]);
        }
    }

    private static void promise11IsLit() {
        HarborLights lights = Harbors.withShips();
        CHECK.no("before the first night", lights.isLit(0, 2));
        lights.night();
        CHECK.yes("reach 9 at range 9", lights.isLit(2, 3));
        CHECK.yes("in the other direction", lights.isLit(3, 2));
        CHECK.no("reach 12 at range 9", lights.isLit(1, 3));
        lights.addLeg(3, 4, 1, 9);
        CHECK.yes("a new leg in the light of the last night", lights.isLit(3, 4));
        CHECK.fails("no leg", ELEMENT, () -> lights.isLit(0, 3) ? 1 : 0);
        CHECK.fails("same port", ELEMENT, () -> lights.isLit(0, 0) ? 1 : 0);
    }

    private static void promises12And13Order() {
        HarborLights lights = Harbors.withChart();
        CHECK.equal("by reach", order(lights), "0-2:50/2 1-2:20/3 0-1:10/5 2-3:7/9 1-3:1/12 ");
        lights.addLeg(4, 3, 21, 3);
        lights.addLeg(4, 2, 20, 3);
        lights.addLeg(0, 4, 20, 3);
        lights.addLeg(3, 0, 20, 3);
        CHECK.equal("then by length, the lower port and the other port", order(lights),
                "0-2:50/2 0-3:20/3 0-4:20/3 1-2:20/3 2-4:20/3 3-4:21/3 0-1:10/5 2-3:7/9 1-3:1/12 ");
        for (int position : new int[] {-1, 9, Integer.MIN_VALUE, Integer.MAX_VALUE}) {
            CHECK.fails("lowerPortAt", INDEX, () -> lights.lowerPortAt(position));
            CHECK.fails("upperPortAt", INDEX, () -> lights.upperPortAt(position));
        }
    }

    private static String order(HarborLights lights) {
        StringBuilder order = new StringBuilder();
        for (int i = 0; i < lights.legCount(); i++) {
            int low = lights.lowerPortAt(i);
            int high = lights.upperPortAt(i);
            order.append(low).append('-').append(high).append(':').append(lights.lengthOf(low, high));
            order.append('/').append(lights.reachOf(low, high)).append(' ');
        }
        return order.toString();
    }
}
