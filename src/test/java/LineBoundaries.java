/** The boundary cases of lines and of the check: promises 45 to 48. */
final class LineBoundaries {
    private static final Class<IndexOutOfBoundsException> INDEX = IndexOutOfBoundsException.class;

    private LineBoundaries() {
    }

    static void run(Sentences sentences) {
        String subscriber = "Writes a subscriber into the line, which replaces the previous line: its start, \">\", "
                + "its goal, \":\" and its money, then \"n\" and its need, or \"-\" if it has none; for example "
                + "\"0>3:125n7\".";
        String leg = "Writes a leg in the order of legs into the line, which replaces the previous line: its port "
                + "with the lower number, \"-\", its other port, \":\", its length, \"/\", its reach, and \"*\" if it "
                + "is lit; for example \"0-3:12/5*\".";
        sentences.test(45, subscriber, LineBoundaries::shortAndLongSubscribers);
        sentences.test(45, subscriber, LineBoundaries::needOrNone);
        sentences.test(45, subscriber, LineBoundaries::subscriberReplacesTheLine);
        sentences.test(45, "Throws `IndexOutOfBoundsException` if there is no such subscriber",
                check -> Refusal.noSuchSubscriber(check, HarborLights::writeSubscriber));
        sentences.test(46, leg, LineBoundaries::shortAndLongLegs);
        sentences.test(46, leg, LineBoundaries::litOrNot);
        sentences.test(46, leg, LineBoundaries::legReplacesTheLine);
        sentences.test(46, "- `position`: the position, from 0", LineBoundaries::firstAndLastLeg);
        sentences.test(46, "Throws `IndexOutOfBoundsException` if there is no such position",
                check -> Refusal.noSuchPosition(check, HarborLights::writeLeg));
        sentences.test(47, "Returns a character of the line, which is empty at first.", LineBoundaries::emptyAtFirst);
        sentences.test(47, "- `index`: index of the character, from 0", LineBoundaries::firstAndLastCharacter);
        sentences.test(47, "Throws `IndexOutOfBoundsException` if there is no such character",
                LineBoundaries::noSuchCharacter);
        consistency(sentences);
    }

    private static void consistency(Sentences sentences) {
        String consistent = "Returns whether the syndicate is consistent: for all pairs of different ports, distance "
                + "and distanceByRounds, and neededRange and neededRangeByTrial, agree or find nothing; shareOf and "
                + "shareByOrders agree for all subscribers that have a route; and the money of all subscribers and "
                + "the fund add up to what was brought in and not taken out again.";
        sentences.test(48, consistent, LineBoundaries::nothingToFind);
        sentences.test(48, consistent, LineBoundaries::subscribersWithoutRoutes);
        sentences.test(48, consistent, LineBoundaries::moneyInAndOut);
    }

    private static void checkSubscriber(Check check, HarborLights lights, int subscriber, String due) {
        int length = lights.writeSubscriber(subscriber);
        check.equal("length of " + due, length, due.length());
        check.equal("line", Harbors.line(lights, length), due);
        check.fails("a character behind " + due, INDEX, () -> lights.lineAt(length));
    }

    private static void checkLeg(Check check, HarborLights lights, int position, String due) {
        int length = lights.writeLeg(position);
        check.equal("length of " + due, length, due.length());
        check.equal("line", Harbors.line(lights, length), due);
        check.fails("a character behind " + due, INDEX, () -> lights.lineAt(length));
    }

    private static void shortAndLongSubscribers(Check check) {
        HarborLights lights = Harbors.withPorts(10);
        lights.addLeg(0, 3, 12, 7);
        lights.addLeg(9, 8, 99, 20);
        lights.addLeg(1, 2, 1, 1);
        lights.subscribe(0, 3, 125);
        lights.subscribe(9, 8, 9999);
        lights.subscribe(1, 2, 0);
        checkSubscriber(check, lights, 0, "0>3:125n7");
        checkSubscriber(check, lights, 1, "9>8:9999n20");
        checkSubscriber(check, lights, 2, "1>2:0n1");
        for (int i = 0; i < 99; i++) {
            lights.deposit(1, 9999);
        }
        checkSubscriber(check, lights, 1, "9>8:999900n20");
    }

    private static void needOrNone(Check check) {
        HarborLights lights = Harbors.withMoneys(0);
        checkSubscriber(check, lights, 0, "0>1:0n4");
        lights.removeLeg(0, 1);
        checkSubscriber(check, lights, 0, "0>1:0-");
        lights.addLeg(0, 1, 1, 20);
        checkSubscriber(check, lights, 0, "0>1:0n20");
    }

    private static void subscriberReplacesTheLine(Check check) {
        HarborLights lights = Harbors.withMoneys(9999, 0);
        checkSubscriber(check, lights, 0, "0>1:9999n4");
        checkSubscriber(check, lights, 1, "0>1:0n4");
        checkLeg(check, lights, 0, "0-1:9/4");
        checkSubscriber(check, lights, 0, "0>1:9999n4");
    }

    private static void shortAndLongLegs(Check check) {
        HarborLights lights = Harbors.withPorts(10);
        lights.addLeg(3, 0, 12, 5);
        lights.addLeg(9, 8, 99, 20);
        lights.addLeg(1, 0, 1, 1);
        checkLeg(check, lights, 0, "0-1:1/1");
        checkLeg(check, lights, 1, "0-3:12/5");
        checkLeg(check, lights, 2, "8-9:99/20");
        lights.subscribe(8, 9, 9999);
        lights.deposit(0, 9999);
        lights.deposit(0, 9999);
        lights.night();
        checkLeg(check, lights, 1, "0-3:12/5*");
        checkLeg(check, lights, 2, "8-9:99/20*");
    }

    private static void litOrNot(Check check) {
        HarborLights lights = Harbors.withMoneys(9999);
        lights.addPort();
        lights.addLeg(0, 2, 5, 3);
        lights.addLeg(1, 2, 5, 5);
        checkLeg(check, lights, 0, "0-2:5/3");
        lights.night();
        checkLeg(check, lights, 0, "0-2:5/3*");
        checkLeg(check, lights, 1, "0-1:9/4*");
        checkLeg(check, lights, 2, "1-2:5/5");
        lights.leave(0);
        lights.night();
        checkLeg(check, lights, 0, "0-2:5/3");
    }

    private static void legReplacesTheLine(Check check) {
        HarborLights lights = Harbors.withMoneys(9999);
        checkSubscriber(check, lights, 0, "0>1:9999n4");
        checkLeg(check, lights, 0, "0-1:9/4");
        lights.night();
        checkLeg(check, lights, 0, "0-1:9/4*");
        lights.undo();
        checkLeg(check, lights, 0, "0-1:9/4");
    }

    private static void firstAndLastLeg(Check check) {
        HarborLights lights = Harbors.full();
        checkLeg(check, lights, 0, "2-3:3/1");
        checkLeg(check, lights, 19, "0-9:9/3");
        HarborLights one = Harbors.withMoneys();
        checkLeg(check, one, 0, "0-1:9/4");
    }

    private static void emptyAtFirst(Check check) {
        check.fails("a new object", INDEX, () -> new HarborLights().lineAt(0));
        HarborLights lights = Harbors.withShips();
        lights.night();
        Harbors.execute(lights, "port");
        check.fails("nothing was written", INDEX, () -> lights.lineAt(0));
    }

    private static void firstAndLastCharacter(Check check) {
        HarborLights lights = Harbors.withShips();
        int length = lights.writeSubscriber(2);
        check.equal("the first", lights.lineAt(0), '3');
        check.equal("the second", lights.lineAt(1), '>');
        check.equal("the last", lights.lineAt(length - 1), '9');
    }

    private static void noSuchCharacter(Check check) {
        Refusal.numbers(check, INDEX, HarborLights::new, HarborLights::lineAt, -1, 0, 1, Integer.MIN_VALUE,
                Integer.MAX_VALUE);
        Refusal.numbers(check, INDEX, Harbors::lived, HarborLights::lineAt, -1, 9, 10, Integer.MIN_VALUE,
                Integer.MAX_VALUE);
        HarborLights lights = Harbors.lived();
        check.equal("the last one", lights.lineAt(8), '*');
        lights.writeLeg(4);
        check.equal("the last one of a shorter line", lights.lineAt(7), '2');
        check.fails("behind a shorter line", INDEX, () -> lights.lineAt(8));
    }

    private static void nothingToFind(Check check) {
        check.yes("a new object", new HarborLights().isConsistent());
        check.yes("one port", Harbors.withPorts(1).isConsistent());
        check.yes("ten ports without legs", Harbors.withPorts(10).isConsistent());
        check.yes("as much as there may be", Harbors.livedFull().isConsistent());
    }

    private static void subscribersWithoutRoutes(Check check) {
        HarborLights lights = Harbors.lived();
        lights.removeLeg(2, 3);
        lights.removeLeg(1, 3);
        check.yes("one has no route", lights.isConsistent());
        lights.removeLeg(0, 2);
        lights.removeLeg(0, 1);
        check.yes("nobody has a route", lights.isConsistent());
        lights.night();
        check.yes("after a night without anybody", lights.isConsistent());
    }

    private static void moneyInAndOut(Check check) {
        HarborLights lights = Harbors.withMoneys(0, 9999, 960);
        lights.setFog(1);
        for (int i = 0; i < 3; i++) {
            lights.night();
            check.yes("after a night", lights.isConsistent());
            lights.deposit(0, 1 + 4999 * i);
            check.yes("after a deposit", lights.isConsistent());
        }
        Harbors.refuse(lights, "pay 0 9;leave 1;leave 9");
        check.yes("after a failed text", lights.isConsistent());
        Harbors.execute(lights, "pay 0 9;leave 1");
        check.yes("after a text", lights.isConsistent());
        lights.leave(0);
        lights.leave(0);
        check.yes("after all left", lights.isConsistent());
        check.yes("the fund is not empty", lights.fund() > 0);
        for (int i = 0; i < 8; i++) {
            lights.undo();
            check.yes("after undo", lights.isConsistent());
        }
    }
}
