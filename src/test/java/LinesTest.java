/** Promises 45 to 48: lines and the check. */
public final class LinesTest {
    private static final Class<IndexOutOfBoundsException> INDEX = IndexOutOfBoundsException.class;
    private static final Check CHECK = new Check("LinesTest");

    public static void main(String[] args) {
        promise45Subscriber();
        promise46Leg();
        promise47LineAt();
        promise48Consistent();
        CHECK.end();
    }

    private static void promise45Subscriber() {
        HarborLights lights = Harbors.withPorts(10);
        lights.addLeg(0, 3, 12, 7);
        lights.addLeg(9, 8, 1, 20);
        lights.subscribe(0, 3, 125);
        lights.subscribe(9, 8, 9999);
        lights.subscribe(3, 0, 0);
        checkSubscriber(lights, 0, "0>3:125n7");
        checkSubscriber(lights, 1, "9>8:9999n20");
        checkSubscriber(lights, 2, "3>0:0n7");
        lights.deposit(1, 9999);
        checkSubscriber(lights, 1, "9>8:19998n20");
        lights.removeLeg(0, 3);
        checkSubscriber(lights, 0, "0>3:125-");
        CHECK.fails("no such subscriber", INDEX, () -> lights.writeSubscriber(3));
        CHECK.fails("subscriber -1", INDEX, () -> lights.writeSubscriber(-1));
        CHECK.equal("the line stays", Harbors.line(lights, 8), "0>3:125-");
    }

    private static void promise46Leg() {
        HarborLights lights = Harbors.withShips();
        checkLeg(lights, 1, "1-2:20/3");
        checkLeg(lights, 4, "1-3:1/12");
        lights.night();
        checkLeg(lights, 0, "0-2:50/2*");
        checkLeg(lights, 3, "2-3:7/9*");
        checkLeg(lights, 4, "1-3:1/12");
        for (int position : new int[] {-1, 5, Integer.MIN_VALUE, Integer.MAX_VALUE}) {
            CHECK.fails("writeLeg", INDEX, () -> lights.writeLeg(position));
        }
        CHECK.equal("the line stays", Harbors.line(lights, 8), "1-3:1/12");
    }

    private static void promise47LineAt() {
        HarborLights lights = Harbors.withShips();
        CHECK.fails("empty at first", INDEX, () -> lights.lineAt(0));
        lights.writeSubscriber(2);
        CHECK.equal("first character", lights.lineAt(0), '3');
        CHECK.equal("last character", lights.lineAt(9), '9');
        for (int index : new int[] {-1, 10, Integer.MIN_VALUE, Integer.MAX_VALUE}) {
            CHECK.fails("lineAt", INDEX, () -> lights.lineAt(index));
        }
        lights.writeLeg(4);
        CHECK.equal("a new line", lights.lineAt(7), '2');
        CHECK.fails("the new line is shorter", INDEX, () -> lights.lineAt(8));
        lights.undo();
        lights.save();
        lights.restore();
        CHECK.equal("undo and restore leave the line", Harbors.line(lights, 8), "1-3:1/12");
    }

    private static void promise48Consistent() {
        HarborLights lights = Harbors.withShips();
        CHECK.yes("with subscribers", lights.isConsistent());
        lights.setFog(2);
        for (int i = 0; i < 4; i++) {
            lights.night();
            CHECK.yes("after a night", lights.isConsistent());
        }
        lights.deposit(0, 77);
        CHECK.yes("after a deposit", lights.isConsistent());
        lights.leave(2);
        CHECK.yes("after one left", lights.isConsistent());
        lights.removeLeg(0, 2);
        lights.removeLeg(0, 1);
        CHECK.yes("without a route", lights.isConsistent());
        lights.undo();
        lights.undo();
        lights.undo();
        CHECK.yes("after undo", lights.isConsistent());
        lights.save();
        Harbors.execute(lights, "pay 0 9;leave 1");
        CHECK.yes("after a text", lights.isConsistent());
        lights.restore();
        CHECK.yes("after restore", lights.isConsistent());
    }

    private static void checkSubscriber(HarborLights lights, int subscriber, String due) {
        int length = lights.writeSubscriber(subscriber);
        CHECK.equal("length of " + due, length, due.length());
        CHECK.equal("writeSubscriber", Harbors.line(lights, length), due);
    }

    private static void checkLeg(HarborLights lights, int position, String due) {
        int length = lights.writeLeg(position);
        CHECK.equal("length of " + due, length, due.length());
        CHECK.equal("writeLeg", Harbors.line(lights, length), due);
    }
}
