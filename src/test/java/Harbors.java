/** Syndicates that several tests begin with, and short ways to use them. */
final class Harbors {
    private Harbors() {
    }

    static HarborLights withPorts(int count) {
        HarborLights lights = new HarborLights();
        for (int i = 0; i < count; i++) {
            lights.addPort();
        }
        return lights;
    }

    /** Ports 0 to 4; port 4 has no leg. */
    static HarborLights withChart() {
        HarborLights lights = withPorts(5);
        lights.addLeg(0, 1, 10, 5);
        lights.addLeg(1, 2, 20, 3);
        lights.addLeg(0, 2, 50, 2);
        lights.addLeg(2, 3, 7, 9);
        lights.addLeg(3, 1, 1, 12);
        return lights;
    }

    /** Needs 3, 2 and 9, so shares 230, 80 and 4550. */
    static HarborLights withShips() {
        HarborLights lights = withChart();
        lights.subscribe(0, 1, 1000);
        lights.subscribe(0, 2, 200);
        lights.subscribe(3, 1, 9999);
        return lights;
    }

    /** A leg of reach 4 (960 grains) and subscribers for it with these moneys. */
    static HarborLights withMoneys(int... moneys) {
        HarborLights lights = withPorts(2);
        lights.addLeg(0, 1, 9, 4);
        for (int money : moneys) {
            lights.subscribe(0, 1, money);
        }
        return lights;
    }

    /** As many ports, legs and subscribers as there may be; the need of each subscriber is 3, its share 90. */
    static HarborLights full() {
        HarborLights lights = withPorts(10);
        int legs = 0;
        for (int from = 0; legs < 20; from++) {
            for (int to = from + 1; to < 10 && legs < 20; to++) {
                legs = lights.addLeg(from, to, to, 3 - from);
            }
        }
        for (int goal = 4; goal < 10; goal++) {
            lights.subscribe(0, goal, 200);
        }
        return lights;
    }

    /** The ships of withShips after a night, with something in all that a refused call could spoil. */
    static HarborLights lived() {
        return livedIn(withShips());
    }

    /** The same with as many ports, legs and subscribers as there may be. */
    static HarborLights livedFull() {
        return livedIn(full());
    }

    private static HarborLights livedIn(HarborLights lights) {
        lights.setFog(4);
        lights.night();
        lights.save();
        lights.deposit(0, 5);
        lights.writeLeg(0);
        refuse(lights, "pox");
        refuse(lights, "fog 2;leave 9");
        type(lights, "port;po");
        return lights;
    }

    /** Executes a text that is malformed or fails. */
    static void refuse(HarborLights lights, String text) {
        type(lights, text);
        try {
            lights.execute();
        } catch (IllegalArgumentException | IllegalStateException thrown) {
            return;
        }
        throw new UnsupportedOperationException("not refused: " + text);
    }

    static void type(HarborLights lights, String text) {
        for (char character : text.toCharArray()) {
            lights.type(character);
        }
    }

    static int execute(HarborLights lights, String text) {
        type(lights, text);
        return lights.execute();
    }

    static String line(HarborLights lights, int length) {
        StringBuilder line = new StringBuilder();
        for (int i = 0; i < length; i++) {
            line.append(lights.lineAt(i));
        }
        return line.toString();
    }

    private interface Field {
        Object ask();
    }

    /** All that the methods tell of the state that is undone, saved and restored. */
    static String picture(HarborLights lights) {
        StringBuilder picture = new StringBuilder();
        int ports = lights.portCount();
        picture.append(ports).append(" ports, ").append(lights.litGroups()).append(" groups");
        int legs = lights.legCount();
        for (int i = 0; i < legs; i++) {
            int low = lights.lowerPortAt(i);
            int high = lights.upperPortAt(i);
            picture.append("; leg ").append(low).append('-').append(high);
            picture.append(':').append(lights.lengthOf(low, high)).append('/').append(lights.reachOf(high, low));
            picture.append('m').append(lights.meterOf(low, high)).append(lights.isLit(low, high) ? "*" : "");
        }
        int ships = lights.subscriberCount();
        for (int i = 0; i < ships; i++) {
            int ship = i;
            picture.append("; ship ").append(lights.startOf(i)).append('>').append(lights.goalOf(i));
            picture.append(':').append(lights.moneyOf(i)).append(" need ").append(answer(() -> lights.needOf(ship)));
            picture.append(" nights ").append(lights.litNightsOf(i)).append('/').append(lights.darkNightsOf(i));
            picture.append(" share ").append(answer(() -> lights.shareOf(ship)));
            picture.append('/').append(answer(() -> lights.shareByOrders(ship)));
            picture.append(" next ").append(lights.wouldBeLit(i)).append(" dark ").append(lights.subscriberByDark(i));
        }
        picture.append("; fog ").append(lights.fogNights()).append(" range ").append(lights.range());
        picture.append(" next ").append(lights.nextRange()).append(" nights ").append(lights.nightCount());
        picture.append(" fund ").append(lights.fund()).append(" refunded ").append(lights.refunded());
        picture.append(" mean ").append(answer(lights::meanMoney)).append(" lit ").append(answer(lights::litShare));
        return picture.append(" consistent ").append(lights.isConsistent()).toString();
    }

    /** All that the methods tell of an object; it is used up by this, by some 450 calls at most. */
    static String everything(HarborLights lights) {
        StringBuilder all = new StringBuilder(picture(lights));
        all.append("; line ");
        String character = answer(lineAt(lights, 0));
        for (int i = 1; character.length() == 1 && i < 99; i++) {
            all.append(character);
            character = answer(lineAt(lights, i));
        }
        all.append("; malformed ").append(answer(lights::errorPosition));
        all.append("; failed ").append(answer(lights::failedCommand));
        String left = answer(lights::undo);
        for (int i = 0; i < 9 && !left.startsWith("Illegal"); i++) {
            all.append("; undo ").append(left).append(' ').append(sketch(lights));
            left = answer(lights::undo);
        }
        all.append("; restore ").append(answer(lights::restore)).append(' ').append(sketch(lights));
        all.append("; type ").append(answer(() -> lights.type('~'))).append(", execute "
                + "").append(answer(lights::execute));
        return all.append(", malformed ").append(answer(lights::errorPosition)).toString();
    }

    private static Field lineAt(HarborLights lights, int index) {
        return () -> lights.lineAt(index);
    }

    /** What changes with each modification. */
    private static String sketch(HarborLights lights) {
        StringBuilder sketch = new StringBuilder();
        sketch.append(lights.portCount()).append(' ').append(lights.legCount()).append(' ').append(lights.fogNights());
        sketch.append(' ').append(lights.nightCount()).append(' ').append(lights.fund()).append(" money");
        int ships = lights.subscriberCount();
        for (int ship = 0; ship < ships; ship++) {
            sketch.append(' ').append(lights.moneyOf(ship));
        }
        return sketch.toString();
    }

    private static String answer(Field field) {
        try {
            return String.valueOf(field.ask());
        } catch (RuntimeException thrown) {
            return thrown.getClass().getSimpleName();
        }
    }
}
