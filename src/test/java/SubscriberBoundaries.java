import java.util.NoSuchElementException;

/** The boundary cases of subscribers and shares: promises 20 to 32, and what the terms say of them. */
final class SubscriberBoundaries {
    private static final Class<IllegalArgumentException> ARGUMENT = IllegalArgumentException.class;
    private static final Class<IllegalStateException> STATE = IllegalStateException.class;
    private static final Class<NoSuchElementException> ELEMENT = NoSuchElementException.class;
    private static final Class<UnsupportedOperationException> UNSUPPORTED = UnsupportedOperationException.class;

    private static final String NO_SUBSCRIBER =
            "Throws `IndexOutOfBoundsException` if there is no such subscriber";
    private static final String NO_ROUTE = "Throws `NoSuchElementException` if it has no route";

    private SubscriberBoundaries() {
    }

    static void run(Sentences sentences) {
        terms(sentences);
        subscribe(sentences);
        sentences.test(21, NO_SUBSCRIBER, check -> Refusal.noSuchSubscriber(check, HarborLights::leave));
        sentences.test(21, NO_SUBSCRIBER, SubscriberBoundaries::leaveUntilNobodyIsLeft);
        sentences.test(22, "- `amount`: the amount, 1 to 9999", SubscriberBoundaries::amounts);
        sentences.test(22, NO_SUBSCRIBER,
                check -> Refusal.noSuchSubscriber(check, (lights, ship) -> lights.deposit(ship, 1)));
        sentences.test(22, "Throws `IllegalArgumentException` if the amount is out of range",
                check -> Refusal.numbers(check, ARGUMENT, Harbors::lived, (lights, amount) -> lights.deposit(2,
                        amount), 0,
                        -1, 10000, Integer.MIN_VALUE, Integer.MAX_VALUE));
        sentences.test(24, NO_SUBSCRIBER, check -> Refusal.noSuchSubscriber(check, HarborLights::startOf));
        sentences.test(25, NO_SUBSCRIBER, check -> Refusal.noSuchSubscriber(check, HarborLights::goalOf));
        sentences.test(26, NO_SUBSCRIBER, check -> Refusal.noSuchSubscriber(check, HarborLights::moneyOf));
        sentences.test(27, NO_SUBSCRIBER, check -> Refusal.noSuchSubscriber(check, HarborLights::needOf));
        sentences.test(27, NO_ROUTE, check -> noRoute(check, HarborLights::needOf));
        sentences.test(28, NO_SUBSCRIBER, check -> Refusal.noSuchSubscriber(check, HarborLights::litNightsOf));
        sentences.test(29, NO_SUBSCRIBER, check -> Refusal.noSuchSubscriber(check, HarborLights::darkNightsOf));
        shares(sentences);
        ranks(sentences);
    }

    private static void terms(Sentences sentences) {
        String six = "There are at most 6 subscribers, numbered from 0 in the order in which they subscribed; when one "
                + "leaves, the numbers of the later ones decrease by 1.";
        sentences.test("Terms", six, SubscriberBoundaries::sixSubscribersFromZero);
        sentences.test("Terms", six, SubscriberBoundaries::oneLeaves);
        sentences.test("Terms", "Its need is the range that its start and its goal need; it has none if there is no "
                + "route between them.", SubscriberBoundaries::needThatIsLostAndFound);
        sentences.test("Terms", "The cost of a range for a night is 60 grains times the square of the range.",
                SubscriberBoundaries::leastAndGreatestCost);
        sentences.test("Terms", "The share is the mean of what it would have to pay, over all orders of these "
                + "subscribers.", SubscriberBoundaries::shareAlone);
        sentences.test("Terms", "With at most 6 subscribers, it is always a whole number of grains.",
                SubscriberBoundaries::wholeShares);
        sentences.test("Terms", "All shares add up to the cost of the greatest need.",
                SubscriberBoundaries::sharesAddUp);
    }

    private static void subscribe(Sentences sentences) {
        String argument =
                "Throws `IllegalArgumentException` if both are the same port, or the money is out of range";
        sentences.test(20, "- `goal`: number of another port", SubscriberBoundaries::anotherGoal);
        sentences.test(20, "- `money`: its money, 0 to 9999", SubscriberBoundaries::moneys);
        sentences.test(20, "Throws `IndexOutOfBoundsException` if there is no such port, for either",
                check -> Refusal.noSuchPort(check, (lights, start, goal) -> lights.subscribe(start, goal, 5)));
        sentences.test(20, argument, SubscriberBoundaries::sameGoal);
        sentences.test(20, argument, SubscriberBoundaries::moneyOutOfRange);
        sentences.test(20, "Throws `IllegalStateException` if there are 6 subscribers",
                SubscriberBoundaries::seventhSubscriber);
        sentences.test(20, "Throws `UnsupportedOperationException` if there is no route between them",
                SubscriberBoundaries::noRouteToSubscribeFor);
    }

    private static void shares(Sentences sentences) {
        sentences.test(30, "Returns the share of a subscriber among all subscribers that have a route, whether they "
                + "can pay or not.", SubscriberBoundaries::sharesOfThePoor);
        sentences.test(30, "It is found by dividing the cost of each step from one need to the next higher one equally "
                + "among those who need at least this.", SubscriberBoundaries::stepsOfNeeds);
        sentences.test(30, NO_SUBSCRIBER, check -> Refusal.noSuchSubscriber(check, HarborLights::shareOf));
        sentences.test(30, NO_ROUTE, check -> noRoute(check, HarborLights::shareOf));
        sentences.test(31, "Returns the same as shareOf, by going through all orders of the subscribers.",
                SubscriberBoundaries::oneOrderTo720);
        sentences.test(31, NO_SUBSCRIBER, check -> Refusal.noSuchSubscriber(check, HarborLights::shareByOrders));
        sentences.test(31, NO_ROUTE, check -> noRoute(check, HarborLights::shareByOrders));
    }

    private static void ranks(Sentences sentences) {
        sentences.test(32, "Returns a subscriber in the order of dark nights, the most first; subscribers with as many "
                + "are ordered by their numbers.", SubscriberBoundaries::asManyDarkNights);
        sentences.test(32, "- `rank`: the rank, from 0", SubscriberBoundaries::firstAndLastRank);
        sentences.test(32, "Throws `NoSuchElementException` if there is no such rank",
                SubscriberBoundaries::noSuchRank);
    }

    private static void sixSubscribersFromZero(Check check) {
        HarborLights lights = Harbors.withMoneys();
        for (int ship = 0; ship < 6; ship++) {
            check.equal("subscribers before", lights.subscriberCount(), ship);
            check.equal("number", lights.subscribe(0, 1, 10 + ship), ship);
        }
        check.fails("a 7th", STATE, () -> lights.subscribe(0, 1, 16));
        check.equal("subscribers", lights.subscriberCount(), 6);
        for (int ship = 0; ship < 6; ship++) {
            check.equal("money of " + ship, lights.moneyOf(ship), 10 + ship);
        }
    }

    /** The first, one in the middle and the last of six: the earlier ones keep their numbers. */
    private static void oneLeaves(Check check) {
        for (int gone = 0; gone < 6; gone++) {
            HarborLights lights = sixThatSubscribedOneByOne();
            int[] moneys = new int[6];
            for (int ship = 0; ship < 6; ship++) {
                moneys[ship] = lights.moneyOf(ship);
            }
            check.equal("its money", lights.leave(gone), moneys[gone]);
            check.equal("five are left", lights.subscriberCount(), 5);
            for (int ship = 0; ship < 5; ship++) {
                int before = ship < gone ? ship : ship + 1;
                check.equal("start of " + ship, lights.startOf(ship), before);
                check.equal("goal of " + ship, lights.goalOf(ship), 4 + before);
                check.equal("money of " + ship, lights.moneyOf(ship), moneys[before]);
                check.equal("lit nights of " + ship, lights.litNightsOf(ship), before % 2 == 0 ? 6 - before : 0);
                check.equal("dark nights of " + ship, lights.darkNightsOf(ship), before % 2 == 0 ? 0 : 6 - before);
            }
            check.equal("a new one is the last", lights.subscribe(1, 2, 7), 5);
            check.equal("the new one's start", lights.startOf(5), 1);
            check.equal("the new one's nights", lights.litNightsOf(5) + lights.darkNightsOf(5), 0);
        }
    }

    /** Every other one can pay; the first has six nights, the last has one. */
    private static HarborLights sixThatSubscribedOneByOne() {
        HarborLights lights = Harbors.withPorts(10);
        for (int port = 1; port < 10; port++) {
            lights.addLeg(0, port, 1, 4);
        }
        for (int ship = 0; ship < 6; ship++) {
            lights.subscribe(ship, 4 + ship, ship % 2 == 0 ? 9990 + ship : ship);
            lights.night();
        }
        return lights;
    }

    private static void needThatIsLostAndFound(Check check) {
        HarborLights lights = Harbors.withMoneys(5);
        check.equal("need", lights.needOf(0), 4);
        lights.removeLeg(0, 1);
        check.fails("no route", ELEMENT, () -> lights.needOf(0));
        lights.addLeg(0, 1, 1, 20);
        check.equal("the greatest need", lights.needOf(0), 20);
        lights.addPort();
        lights.addLeg(0, 2, 99, 1);
        check.equal("half a better route", lights.needOf(0), 20);
        lights.addLeg(2, 1, 99, 1);
        check.equal("the least need", lights.needOf(0), 1);
    }

    private static void leastAndGreatestCost(Check check) {
        HarborLights lights = new HarborLights();
        check.equal("no range", lights.costOf(0), 0);
        check.equal("the least range", lights.costOf(1), 60);
        check.equal("the greatest range", lights.costOf(20), 24000);
        HarborLights greatest = withReaches(20);
        greatest.deposit(0, 9999);
        greatest.deposit(0, 9999);
        greatest.deposit(0, 9999);
        greatest.night();
        check.equal("paid for the greatest range", greatest.fund(), 24000);
    }

    private static void shareAlone(Check check) {
        for (int reach = 1; reach <= 20; reach++) {
            HarborLights lights = withReaches(reach);
            check.equal("the only order", lights.shareOf(0), 60 * reach * reach);
        }
    }

    /** Port 0 with a leg of each reach to a port of its own, and a subscriber for each of them. */
    private static HarborLights withReaches(int... reaches) {
        HarborLights lights = Harbors.withPorts(1 + reaches.length);
        for (int ship = 0; ship < reaches.length; ship++) {
            lights.addLeg(0, 1 + ship, 5, reaches[ship]);
            lights.subscribe(0, 1 + ship, 0);
        }
        return lights;
    }

    /** With equal needs of 1 and up to 6 subscribers, each share is a part of 60 grains. */
    private static void wholeShares(Check check) {
        int[] reaches = new int[0];
        for (int count = 1; count <= 6; count++) {
            reaches = java.util.Arrays.copyOf(reaches, count);
            reaches[count - 1] = 1;
            HarborLights lights = withReaches(reaches);
            for (int ship = 0; ship < count; ship++) {
                check.equal("one of " + count, lights.shareOf(ship), 60 / count);
                check.equal("one of " + count + ", by orders", lights.shareByOrders(ship), 60 / count);
            }
        }
    }

    private static void sharesAddUp(Check check) {
        int[][] cases = {{20}, {1}, {20, 20}, {1, 20}, {19, 7, 13}, {5, 5, 1, 2}, {20, 19, 18, 17, 16},
            {1, 2, 3, 4, 5, 6}, {20, 20, 20, 20, 20, 20}, {17, 1, 17, 11, 1, 19}};
        for (int[] reaches : cases) {
            HarborLights lights = withReaches(reaches);
            int greatest = 0;
            int total = 0;
            int totalByOrders = 0;
            for (int ship = 0; ship < reaches.length; ship++) {
                greatest = Math.max(greatest, reaches[ship]);
                total += lights.shareOf(ship);
                totalByOrders += lights.shareByOrders(ship);
            }
            check.equal("all shares", total, lights.costOf(greatest));
            check.equal("all shares by orders", totalByOrders, lights.costOf(greatest));
        }
    }

    private static void anotherGoal(Check check) {
        HarborLights lights = Harbors.withMoneys();
        check.fails("the same port", ARGUMENT, () -> lights.subscribe(0, 0, 5));
        check.fails("the same last port", ARGUMENT, () -> lights.subscribe(1, 1, 5));
        check.equal("another port", lights.subscribe(0, 1, 5), 0);
        check.equal("another port back", lights.subscribe(1, 0, 5), 1);
        check.equal("the start back", lights.startOf(1), 1);
        check.equal("the goal back", lights.goalOf(1), 0);
    }

    private static void moneys(Check check) {
        for (int money : new int[] {0, 1, 9998, 9999}) {
            HarborLights lights = Harbors.withMoneys();
            check.equal("a subscriber with " + money, lights.subscribe(0, 1, money), 0);
            check.equal("money", lights.moneyOf(0), money);
        }
    }

    private static void sameGoal(Check check) {
        Refusal.numbers(check, ARGUMENT, Harbors::lived, (lights, port) -> lights.subscribe(port, port, 5), 0, 1, 4);
        Refusal.check(check, "the same port with six subscribers", ARGUMENT, Harbors::livedFull,
                lights -> lights.subscribe(9, 9, 5));
    }

    private static void moneyOutOfRange(Check check) {
        Refusal.numbers(check, ARGUMENT, Harbors::lived, (lights, money) -> lights.subscribe(0, 1, money), -1, 10000,
                Integer.MIN_VALUE, Integer.MAX_VALUE);
    }

    private static void seventhSubscriber(Check check) {
        Refusal.check(check, "a 7th subscriber", STATE, Harbors::livedFull, lights -> lights.subscribe(0, 9, 5));
        HarborLights lights = Harbors.full();
        lights.leave(5);
        check.equal("a 6th subscriber", lights.subscribe(0, 9, 5), 5);
    }

    private static void noRouteToSubscribeFor(Check check) {
        Refusal.check(check, "to a port without legs", UNSUPPORTED, Harbors::lived, lights -> lights.subscribe(0, 4,
                5));
        Refusal.check(check, "from a port without legs", UNSUPPORTED, Harbors::lived,
                lights -> lights.subscribe(4, 0, 5));
        Refusal.check(check, "without legs", UNSUPPORTED, () -> Harbors.withPorts(2),
                lights -> lights.subscribe(0, 1, 5));
        HarborLights lights = Harbors.lived();
        lights.addLeg(4, 3, 1, 20);
        check.equal("a dark route is one", lights.subscribe(0, 4, 5), 3);
    }

    private static void leaveUntilNobodyIsLeft(Check check) {
        HarborLights lights = Harbors.full();
        for (int left = 5; left >= 0; left--) {
            int last = left;
            check.equal("the last one leaves", lights.leave(last), 200);
            check.equal("left", lights.subscriberCount(), last);
            check.fails("it is gone", IndexOutOfBoundsException.class, () -> lights.leave(last));
        }
        check.yes("consistent without subscribers", lights.isConsistent());
    }

    private static void amounts(Check check) {
        for (int amount : new int[] {1, 2, 9998, 9999}) {
            HarborLights lights = Harbors.withMoneys(0, 9999);
            check.equal("to nothing", lights.deposit(0, amount), amount);
            check.equal("to the most that one may bring", lights.deposit(1, amount), 9999 + amount);
            check.equal("money", lights.moneyOf(1), 9999 + amount);
        }
    }

    private static void noRoute(Check check, Refusal.NumberCall call) {
        Refusal.Maker lost = () -> {
            HarborLights lights = Harbors.lived();
            lights.removeLeg(2, 3);
            lights.removeLeg(1, 3);
            return lights;
        };
        Refusal.check(check, "a subscriber whose last route is gone", ELEMENT, lost, lights -> call.on(lights, 2));
        check.yes("others have one", call.on(lost.make(), 0) > 0 && call.on(lost.make(), 1) > 0);
        Refusal.Maker none = () -> {
            HarborLights lights = Harbors.withMoneys(5, 6);
            lights.removeLeg(0, 1);
            return lights;
        };
        Refusal.numbers(check, ELEMENT, none, call, 0, 1);
        HarborLights again = lost.make();
        again.addLeg(0, 3, 1, 1);
        check.yes("a new route", call.on(again, 2) > 0);
    }

    private static void sharesOfThePoor(Check check) {
        HarborLights lights = Harbors.withMoneys(0, 0, 9999);
        for (int ship = 0; ship < 3; ship++) {
            check.equal("a third, without money too", lights.shareOf(ship), 320);
        }
        lights.addPort();
        lights.addLeg(1, 2, 1, 20);
        lights.subscribe(0, 2, 0);
        lights.removeLeg(1, 2);
        check.equal("one without a route does not count", lights.shareOf(2), 320);
    }

    /** Needs 3, 2 and 9 again, then needs that are equal, next to each other and as far apart as may be. */
    private static void stepsOfNeeds(Check check) {
        checkShares(check, withReaches(3, 2, 9), 230, 80, 4550);
        checkShares(check, withReaches(20, 1), 23970, 30);
        checkShares(check, withReaches(1, 1, 20), 20, 20, 23960);
        checkShares(check, withReaches(5, 4, 5), 590, 320, 590);
        checkShares(check, withReaches(20, 20, 20, 20, 20, 20), 4000, 4000, 4000, 4000, 4000, 4000);
    }

    private static void checkShares(Check check, HarborLights lights, int... due) {
        for (int ship = 0; ship < due.length; ship++) {
            check.equal("share of " + ship + " of " + due.length, lights.shareOf(ship), due[ship]);
        }
    }

    private static void oneOrderTo720(Check check) {
        int[][] reaches = {{7}, {7, 3}, {7, 3, 20}, {7, 3, 20, 1}, {7, 3, 20, 1, 3}, {7, 3, 20, 1, 3, 12}};
        int[][] due = {{2940}, {2670, 270}, {1380, 180, 22440}, {1375, 175, 22435, 15}, {1332, 132, 22392, 12, 132},
            {906, 106, 19116, 10, 106, 3756}};
        for (int i = 0; i < reaches.length; i++) {
            HarborLights lights = withReaches(reaches[i]);
            for (int ship = 0; ship < due[i].length; ship++) {
                check.equal("share by orders of " + ship, lights.shareByOrders(ship), due[i][ship]);
                check.equal("share of " + ship, lights.shareOf(ship), due[i][ship]);
            }
        }
    }

    private static void asManyDarkNights(Check check) {
        HarborLights lights = Harbors.withMoneys(0, 0, 0, 0, 0, 0);
        checkRanks(check, lights, 0, 1, 2, 3, 4, 5);
        lights.night();
        checkRanks(check, lights, 0, 1, 2, 3, 4, 5);
        lights.deposit(2, 960);
        lights.deposit(0, 960);
        lights.night();
        checkRanks(check, lights, 1, 3, 4, 5, 0, 2);
        lights.leave(1);
        checkRanks(check, lights, 2, 3, 4, 0, 1);
        lights.subscribe(0, 1, 0);
        checkRanks(check, lights, 2, 3, 4, 0, 1, 5);
    }

    private static void checkRanks(Check check, HarborLights lights, int... due) {
        for (int rank = 0; rank < due.length; rank++) {
            check.equal("at rank " + rank, lights.subscriberByDark(rank), due[rank]);
        }
    }

    private static void firstAndLastRank(Check check) {
        check.equal("the only rank", Harbors.withMoneys(5).subscriberByDark(0), 0);
        HarborLights lights = Harbors.withMoneys(5000, 0, 0, 0, 0, 0);
        lights.night();
        check.equal("rank 0", lights.subscriberByDark(0), 1);
        check.equal("rank 5", lights.subscriberByDark(5), 0);
    }

    private static void noSuchRank(Check check) {
        Refusal.numbers(check, ELEMENT, HarborLights::new, HarborLights::subscriberByDark, -1, 0, 1,
                Integer.MIN_VALUE, Integer.MAX_VALUE);
        Refusal.numbers(check, ELEMENT, Harbors::lived, HarborLights::subscriberByDark, -1, 3, 6,
                Integer.MIN_VALUE, Integer.MAX_VALUE);
        Refusal.numbers(check, ELEMENT, Harbors::livedFull, HarborLights::subscriberByDark, -1, 6, 7);
    }
}
