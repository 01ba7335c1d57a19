/** Calls that must be refused: with which exception, and that they leave the object as if they had not been made. */
final class Refusal {
    interface Maker {
        HarborLights make();
    }

    interface Call {
        double on(HarborLights lights);
    }

    interface NumberCall {
        double on(HarborLights lights, int number);
    }

    interface PairCall {
        double on(HarborLights lights, int one, int other);
    }

    private static final Class<IndexOutOfBoundsException> INDEX = IndexOutOfBoundsException.class;

    private Refusal() {
    }

    /** The maker must make the same object each time: one is called, the other one is its twin that is not. */
    static void check(Check check, String what, Class<? extends RuntimeException> due, Maker maker, Call call) {
        compare(check, what, due, maker, call, Harbors.everything(maker.make()));
    }

    private static void compare(Check check, String what, Class<? extends RuntimeException> due, Maker maker, Call call,
            String twin) {
        HarborLights lights = maker.make();
        check.fails(what, due, () -> call.on(lights));
        check.equal("all after " + what, Harbors.everything(lights), twin);
    }

    static void numbers(Check check, Class<? extends RuntimeException> due, Maker maker, NumberCall call,
            int... numbers) {
        String twin = Harbors.everything(maker.make());
        for (int number : numbers) {
            compare(check, "a call with " + number, due, maker, lights -> call.on(lights, number), twin);
        }
    }

    /** Without ports, with some of them and with as many as there may be: too small and too large, for either. */
    static void noSuchPort(Check check, PairCall call) {
        noSuchPort(check, HarborLights::new, call);
        noSuchPort(check, Harbors::lived, call);
        noSuchPort(check, Harbors::livedFull, call);
    }

    private static void noSuchPort(Check check, Maker maker, PairCall call) {
        int ports = maker.make().portCount();
        String twin = Harbors.everything(maker.make());
        for (int bad : new int[] {-1, ports, ports + 1, Integer.MIN_VALUE, Integer.MAX_VALUE}) {
            for (int good : new int[] {0, Math.max(ports - 1, 0), bad}) {
                String pair = " with " + bad + ", " + good + " among " + ports + " ports";
                compare(check, "from" + pair, INDEX, maker, lights -> call.on(lights, bad, good), twin);
                compare(check, "to" + pair, INDEX, maker, lights -> call.on(lights, good, bad), twin);
            }
        }
        for (int from = 0; from < ports; from++) {
            for (int to = 0; to < ports; to++) {
                int one = from;
                int other = to;
                notIndex(check, "ports " + from + " and " + to, maker, lights -> call.on(lights, one, other));
            }
        }
    }

    /** Without subscribers, with some, with as many as there may be, and after one left. */
    static void noSuchSubscriber(Check check, NumberCall call) {
        noSuchSubscriber(check, HarborLights::new, call);
        noSuchSubscriber(check, Harbors::lived, call);
        noSuchSubscriber(check, Harbors::livedFull, call);
        noSuchSubscriber(check, () -> {
            HarborLights lights = Harbors.lived();
            lights.leave(0);
            return lights;
        }, call);
    }

    private static void noSuchSubscriber(Check check, Maker maker, NumberCall call) {
        int count = maker.make().subscriberCount();
        numbers(check, INDEX, maker, call, -1, count, count + 1, Integer.MIN_VALUE, Integer.MAX_VALUE);
        for (int i = 0; i < count; i++) {
            int ship = i;
            notIndex(check, "subscriber " + ship, maker, lights -> call.on(lights, ship));
        }
    }

    /** Without legs, with some, with as many as there may be, and after one was removed. */
    static void noSuchPosition(Check check, NumberCall call) {
        noSuchPosition(check, HarborLights::new, call);
        noSuchPosition(check, Harbors::lived, call);
        noSuchPosition(check, Harbors::livedFull, call);
        noSuchPosition(check, () -> {
            HarborLights lights = Harbors.lived();
            lights.removeLeg(0, 2);
            return lights;
        }, call);
    }

    private static void noSuchPosition(Check check, Maker maker, NumberCall call) {
        int legs = maker.make().legCount();
        numbers(check, INDEX, maker, call, -1, legs, legs + 1, Integer.MIN_VALUE, Integer.MAX_VALUE);
        for (int i = 0; i < legs; i++) {
            int position = i;
            notIndex(check, "position " + position, maker, lights -> call.on(lights, position));
        }
    }

    private static void notIndex(Check check, String what, Maker maker, Call call) {
        boolean refused = false;
        try {
            call.on(maker.make());
        } catch (IndexOutOfBoundsException thrown) {
            refused = true;
        } catch (RuntimeException thrown) {
            // Another exception may be due: only that the number itself is not refused is looked at here.
            refused = false;
        }
        check.no(what + " refused as none", refused);
    }
}
