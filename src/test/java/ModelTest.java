import java.lang.reflect.InvocationTargetException;
import java.lang.reflect.Method;
import java.util.ArrayList;
import java.util.List;
import java.util.Random;

/**
 * All promises in long runs of calls drawn by fixed seeds: each answer and each exception of the program must be the
 * model's, and no exception may be one that the machine throws.
 */
public final class ModelTest {
    private static final int RUNS = 300;
    private static final int CALLS = 512;
    private static final Check CHECK = new Check("ModelTest");

    /** The names of the methods with the kinds of their parameters; a name stands more often if it changes a lot. */
    private static final String[] METHODS = {
        "addPort", "addPort", "addPort", "addLeg port port length reach", "addLeg port port length reach",
        "addLeg port port length reach", "addLeg port port length reach", "addLeg any any any any",
        "removeLeg port port", "removeLeg any any", "portCount", "legCount", "hasLeg port port", "hasLeg any any",
        "lengthOf port port", "lengthOf any any", "reachOf port port", "reachOf any any", "meterOf port port",
        "meterOf any any", "isLit port port", "isLit any any", "lowerPortAt position", "upperPortAt position",
        "lowerPortAt any", "upperPortAt any", "distance port port", "distanceByRounds port port",
        "litDistance port port", "distance any any", "distanceByRounds any any", "litDistance any any",
        "neededRange port port", "neededRangeByTrial port port", "neededRange any any", "neededRangeByTrial any any",
        "litGroups", "subscribe port port money", "subscribe port port money", "subscribe port port money",
        "subscribe any any any", "leave ship", "leave any", "deposit ship money", "deposit ship money",
        "deposit ship money", "deposit any any", "subscriberCount", "startOf ship", "goalOf ship", "moneyOf ship",
        "needOf ship", "litNightsOf ship", "darkNightsOf ship", "startOf any", "goalOf any", "moneyOf any",
        "needOf any", "litNightsOf any", "darkNightsOf any", "shareOf ship", "shareByOrders ship", "shareOf any",
        "shareByOrders any", "subscriberByDark ship", "subscriberByDark any", "setFog fog", "setFog any", "fogNights",
        "night", "night", "night", "night", "wouldBeLit ship", "wouldBeLit any", "nextRange", "range", "nightCount",
        "costOf reach", "costOf any", "fund", "refunded", "meanMoney", "litShare", "writeSubscriber ship",
        "writeSubscriber any", "writeLeg position", "writeLeg any", "lineAt index", "lineAt any", "isConsistent",
        "type character", "execute", "errorPosition", "failedCommand", "undo", "undo", "save", "restore"};

    public static void main(String[] args) throws ReflectiveOperationException {
        for (int seed = 0; seed < RUNS && CHECK.wrong() == 0; seed++) {
            new Run(seed).go();
        }
        CHECK.end();
    }

    private static final class Run {
        private final Random random;
        private final int seed;
        private final HarborLights lights = new HarborLights();
        private final Model model = new Model();
        private final List<String> calls = new ArrayList<>();

        Run(int seed) {
            this.seed = seed;
            random = new Random(seed);
        }

        void go() throws ReflectiveOperationException {
            begin("addPort", random.nextInt(11));
            begin("addLeg port port length reach", 3 * random.nextInt(15));
            begin("subscribe port port money", random.nextInt(10));
            begin("night", random.nextInt(3));
            begin("deposit ship money", random.nextInt(12));
            while (calls.size() < CALLS && CHECK.wrong() == 0) {
                if (random.nextInt(12) == 0) {
                    text();
                } else {
                    call(METHODS[random.nextInt(METHODS.length)]);
                }
            }
            everything();
        }

        private void begin(String method, int times) throws ReflectiveOperationException {
            for (int i = 0; i < times; i++) {
                call(method);
            }
        }

        private void text() throws ReflectiveOperationException {
            StringBuilder text = new StringBuilder();
            int commands = 1 + random.nextInt(random.nextInt(3) == 0 ? 8 : 3);
            for (int i = 0; i < commands; i++) {
                text.append(i > 0 ? ";" : "").append(command());
            }
            if (random.nextInt(4) == 0) {
                spoil(text);
            }
            for (int i = 0; i < text.length(); i++) {
                compare("type", new Class<?>[] {char.class}, new Object[] {text.charAt(i)});
            }
            call("execute");
            call("errorPosition");
            call("failedCommand");
            everything();
        }

        private String command() {
            switch (random.nextInt(8)) {
                case 0:
                    return "port";
                case 1:
                    return "leg " + digit() + " " + digit() + " " + random.nextInt(100) + " 0" + digit();
                case 2:
                    return "cut " + digit() + " " + digit();
                case 3:
                    return "ship " + digit() + " " + digit() + " " + random.nextInt(10000);
                case 4:
                    return "pay " + random.nextInt(3) + " " + random.nextInt(10000);
                case 5:
                    return "leave " + random.nextInt(3);
                case 6:
                    return "fog " + random.nextInt(10);
                default:
                    return "night";
            }
        }

        private int digit() {
            int ports = model.portCount();
            return ports == 0 || random.nextInt(20) == 0 ? random.nextInt(10) : random.nextInt(ports);
        }

        private void spoil(StringBuilder text) {
            int place = random.nextInt(text.length());
            String letters = " ;0123456789portlegcutshipaywnfv~";
            char letter = letters.charAt(random.nextInt(letters.length()));
            switch (random.nextInt(4)) {
                case 0:
                    text.setLength(place);
                    break;
                case 1:
                    text.deleteCharAt(place);
                    break;
                case 2:
                    text.insert(place, letter);
                    break;
                default:
                    text.setCharAt(place, letter);
                    break;
            }
        }

        /** All methods without parameters, and all others for all that they may be asked for. */
        private void everything() throws ReflectiveOperationException {
            for (String call : new String[] {"portCount", "legCount", "litGroups", "subscriberCount", "fogNights",
                "nextRange", "range", "nightCount", "fund", "refunded", "meanMoney", "litShare", "isConsistent"}) {
                call(call);
            }
            for (String name : new String[] {"startOf", "goalOf", "moneyOf", "needOf", "litNightsOf", "darkNightsOf",
                "shareOf", "shareByOrders", "subscriberByDark", "wouldBeLit", "writeSubscriber"}) {
                for (int ship = -1; ship <= 6; ship++) {
                    compare(name, new Class<?>[] {int.class}, new Object[] {ship});
                }
            }
            for (int from = 0; from < model.portCount(); from++) {
                int to = random.nextInt(model.portCount());
                for (String name : new String[] {"hasLeg", "lengthOf", "reachOf", "meterOf", "isLit", "distance",
                    "distanceByRounds", "litDistance", "neededRange", "neededRangeByTrial"}) {
                    compare(name, new Class<?>[] {int.class, int.class}, new Object[] {from, to});
                }
            }
            for (int position = 0; position < model.legCount(); position++) {
                Object[] ports = {model.lowerPortAt(position), model.upperPortAt(position)};
                for (String name : new String[] {"lengthOf", "reachOf", "meterOf", "isLit"}) {
                    compare(name, new Class<?>[] {int.class, int.class}, ports);
                }
            }
            for (int position = -1; position <= model.legCount(); position++) {
                for (String name : new String[] {"lowerPortAt", "upperPortAt", "writeLeg", "lineAt"}) {
                    compare(name, new Class<?>[] {int.class}, new Object[] {position});
                }
            }
        }

        private void call(String method) throws ReflectiveOperationException {
            String[] words = method.split(" ");
            Class<?>[] types = new Class<?>[words.length - 1];
            Object[] arguments = new Object[words.length - 1];
            for (int i = 1; i < words.length; i++) {
                types[i - 1] = words[i].equals("character") ? char.class : int.class;
                arguments[i - 1] = argument(words[i]);
            }
            compare(words[0], types, arguments);
        }

        private Object argument(String kind) {
            boolean beyond = random.nextInt(25) == 0;
            switch (kind) {
                case "port":
                    return random.nextInt(Math.max(1, model.portCount()) + (beyond ? 2 : 0)) - (beyond ? 1 : 0);
                case "ship":
                    return random.nextInt(Math.max(1, model.subscriberCount()) + (beyond ? 2 : 0)) - (beyond ? 1 : 0);
                case "position":
                    return random.nextInt(Math.max(1, model.legCount()) + (beyond ? 2 : 0)) - (beyond ? 1 : 0);
                case "length":
                    return beyond ? 100 * random.nextInt(2) : 1 + random.nextInt(random.nextBoolean() ? 4 : 99);
                case "reach":
                    return beyond ? 21 * random.nextInt(2) : 1 + random.nextInt(random.nextBoolean() ? 4 : 20);
                case "money":
                    return beyond ? 10001 * random.nextInt(2) - 1 : random.nextInt(random.nextBoolean() ? 2000 : 10000);
                case "fog":
                    return beyond ? 11 * random.nextInt(2) - 1 : random.nextInt(10);
                case "index":
                    return random.nextInt(14) - 1;
                case "character":
                    return (char) (beyond ? random.nextInt(65536) : 32 + random.nextInt(95));
                default:
                    return any();
            }
        }

        private int any() {
            int[] edges = {Integer.MIN_VALUE, -1, 0, 1, 9, 10, 20, 21, 60, 99, 100, 9999, 10000, Integer.MAX_VALUE};
            return random.nextInt(3) == 0 ? random.nextInt() : edges[random.nextInt(edges.length)];
        }

        private void compare(String name, Class<?>[] types, Object[] arguments) throws ReflectiveOperationException {
            String call = name + List.of(arguments);
            calls.add(call);
            String got = answer(lights, name, types, arguments);
            String due = answer(model, name, types, arguments);
            CHECK.equal("seed " + seed + ", call " + calls.size() + ", " + call, got, due);
        }

        private static String answer(Object object, String name, Class<?>[] types, Object[] arguments)
                throws ReflectiveOperationException {
            Method method = object.getClass().getMethod(name, types);
            try {
                return String.valueOf(method.invoke(object, arguments));
            } catch (InvocationTargetException thrown) {
                return thrown.getCause().getClass().getName();
            }
        }
    }
}
