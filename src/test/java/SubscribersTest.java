import java.util.NoSuchElementException;

/** Promises 20 to 32: subscribers, their needs and their shares. */
public final class SubscribersTest {
    private static final Class<IndexOutOfBoundsException> INDEX = IndexOutOfBoundsException.class;
    private static final Class<IllegalArgumentException> ARGUMENT = IllegalArgumentException.class;
    private static final Class<IllegalStateException> STATE = IllegalStateException.class;
    private static final Class<NoSuchElementException> ELEMENT = NoSuchElementException.class;
    private static final Class<UnsupportedOperationException> UNSUPPORTED = UnsupportedOperationException.class;
    private static final Check CHECK = new Check("SubscribersTest");

    public static void main(String[] args) {
        promise20Subscribe();
        promise20Limit();
        promise21Leave();
        promise22Deposit();
        promises23To26Facts();
        promise27Need();
        promises28And29Nights();
        promises30And31Shares();
        promises30And31AllSix();
        promise32ByDark();
        wrongSubscribers();
        CHECK.end();
    }

    private static void promise20Subscribe() {
        HarborLights lights = Harbors.withChart();
        CHECK.fails("start -1", INDEX, () -> lights.subscribe(-1, 0, 5));
        CHECK.fails("goal -1", INDEX, () -> lights.subscribe(0, -1, 5));
        CHECK.fails("start 5", INDEX, () -> lights.subscribe(5, 0, 5));
        CHECK.fails("goal 5", INDEX, () -> lights.subscribe(0, 5, 5));
        CHECK.fails("no port comes before same port and money", INDEX, () -> lights.subscribe(5, 5, -1));
        CHECK.fails("same port", ARGUMENT, () -> lights.subscribe(0, 0, 5));
        CHECK.fails("money -1", ARGUMENT, () -> lights.subscribe(0, 1, -1));
        CHECK.fails("money 10000", ARGUMENT, () -> lights.subscribe(0, 1, 10000));
        CHECK.fails("money comes before no route", ARGUMENT, () -> lights.subscribe(0, 4, 10000));
        CHECK.fails("no route", UNSUPPORTED, () -> lights.subscribe(0, 4, 5));
        CHECK.fails("no route back", UNSUPPORTED, () -> lights.subscribe(4, 0, 5));
        CHECK.equal("none after refused ones", lights.subscriberCount(), 0);
        CHECK.equal("no money", lights.subscribe(0, 1, 0), 0);
        CHECK.equal("most money", lights.subscribe(1, 0, 9999), 1);
        CHECK.equal("the same route again", lights.subscribe(1, 0, 7), 2);
        CHECK.equal("count", lights.subscriberCount(), 3);
    }

    private static void promise20Limit() {
        HarborLights lights = Harbors.withMoneys(1, 2, 3, 4, 5, 6);
        lights.addPort();
        CHECK.fails("a 7th", STATE, () -> lights.subscribe(0, 1, 5));
        CHECK.fails("6 subscribers come before no route", STATE, () -> lights.subscribe(0, 2, 5));
        CHECK.fails("money comes before 6 subscribers", ARGUMENT, () -> lights.subscribe(0, 1, 10000));
        CHECK.equal("count", lights.subscriberCount(), 6);
        lights.leave(3);
        CHECK.equal("a 6th again", lights.subscribe(1, 0, 70), 5);
        CHECK.equal("its money", lights.moneyOf(5), 70);
    }

    private static void promise21Leave() {
        HarborLights lights = Harbors.withShips();
        lights.night();
        CHECK.equal("leave", lights.leave(1), 120);
        CHECK.equal("count", lights.subscriberCount(), 2);
        CHECK.equal("the earlier one stays", lights.moneyOf(0), 770);
        CHECK.equal("the later one's number is 1 now", lights.startOf(1), 3);
        CHECK.equal("its goal", lights.goalOf(1), 1);
        CHECK.equal("its money", lights.moneyOf(1), 5449);
        CHECK.equal("its nights", lights.litNightsOf(1), 1);
        CHECK.fails("no number 2 now", INDEX, () -> lights.moneyOf(2));
        CHECK.equal("the fund stays", lights.fund(), 4860);
        CHECK.yes("consistent", lights.isConsistent());
        CHECK.equal("a new one has the next number", lights.subscribe(2, 0, 9), 2);
        CHECK.equal("and no nights", lights.litNightsOf(2), 0);
        CHECK.equal("leave with what is left", lights.leave(0), 770);
        CHECK.equal("leave again", lights.leave(0), 5449);
        CHECK.equal("leave at last", lights.leave(0), 9);
        CHECK.fails("nobody is left", INDEX, () -> lights.leave(0));
    }

    private static void promise22Deposit() {
        HarborLights lights = Harbors.withMoneys(5, 6);
        CHECK.equal("least", lights.deposit(0, 1), 6);
        CHECK.equal("most", lights.deposit(0, 9999), 10005);
        CHECK.equal("more money than a new one may have", lights.deposit(0, 9999), 20004);
        CHECK.equal("the other one's money", lights.moneyOf(1), 6);
        CHECK.fails("amount 0", ARGUMENT, () -> lights.deposit(0, 0));
        CHECK.fails("amount -1", ARGUMENT, () -> lights.deposit(0, -1));
        CHECK.fails("amount 10000", ARGUMENT, () -> lights.deposit(0, 10000));
        CHECK.fails("nobody", INDEX, () -> lights.deposit(2, 5));
        CHECK.fails("nobody comes before the amount", INDEX, () -> lights.deposit(-1, 0));
        CHECK.equal("money after refused ones", lights.moneyOf(0), 20004);
        CHECK.yes("consistent", lights.isConsistent());
    }

    private static void promises23To26Facts() {
        HarborLights lights = Harbors.withShips();
        CHECK.equal("count", lights.subscriberCount(), 3);
        int[][] due = {{0, 1, 1000}, {0, 2, 200}, {3, 1, 9999}};
        for (int ship = 0; ship < 3; ship++) {
            CHECK.equal("startOf", lights.startOf(ship), due[ship][0]);
            CHECK.equal("goalOf", lights.goalOf(ship), due[ship][1]);
            CHECK.equal("moneyOf", lights.moneyOf(ship), due[ship][2]);
        }
    }

    private static void promise27Need() {
        HarborLights lights = Harbors.withShips();
        CHECK.equal("need", lights.needOf(0), 3);
        CHECK.equal("need", lights.needOf(1), 2);
        CHECK.equal("need", lights.needOf(2), 9);
        lights.removeLeg(2, 3);
        CHECK.equal("need by another leg", lights.needOf(2), 12);
        lights.addLeg(0, 3, 99, 1);
        CHECK.equal("need by a new leg", lights.needOf(2), 3);
        lights.removeLeg(0, 3);
        lights.removeLeg(1, 3);
        CHECK.fails("no route now", ELEMENT, () -> lights.needOf(2));
        CHECK.equal("others have one", lights.needOf(0), 3);
    }

    private static void promises28And29Nights() {
        HarborLights lights = Harbors.withShips();
        CHECK.equal("no lit nights", lights.litNightsOf(1), 0);
        CHECK.equal("no dark nights", lights.darkNightsOf(1), 0);
        lights.night();
        lights.night();
        lights.night();
        int[][] due = {{3, 0}, {2, 1}, {2, 1}};
        for (int ship = 0; ship < 3; ship++) {
            CHECK.equal("litNightsOf", lights.litNightsOf(ship), due[ship][0]);
            CHECK.equal("darkNightsOf", lights.darkNightsOf(ship), due[ship][1]);
        }
    }

    private static void promises30And31Shares() {
        HarborLights lights = Harbors.withShips();
        int[] due = {230, 80, 4550};
        for (int ship = 0; ship < 3; ship++) {
            CHECK.equal("shareOf", lights.shareOf(ship), due[ship]);
            CHECK.equal("shareByOrders", lights.shareByOrders(ship), due[ship]);
        }
        lights.removeLeg(2, 3);
        lights.removeLeg(1, 3);
        CHECK.fails("no route", ELEMENT, () -> lights.shareOf(2));
        CHECK.fails("no route, by orders", ELEMENT, () -> lights.shareByOrders(2));
        CHECK.equal("share among those with a route", lights.shareOf(0), 420);
        CHECK.equal("share among those with a route, by orders", lights.shareByOrders(0), 420);
        CHECK.equal("half of the common step", lights.shareOf(1), 120);
        CHECK.equal("half of the common step, by orders", lights.shareByOrders(1), 120);
        HarborLights poor = Harbors.withMoneys(0, 0, 960);
        CHECK.equal("shares count those who cannot pay", poor.shareOf(2), 320);
        CHECK.equal("shares count those who cannot pay, by orders", poor.shareByOrders(2), 320);
    }

    private static void promises30And31AllSix() {
        HarborLights lights = Harbors.withPorts(7);
        int[] reaches = {20, 3, 3, 11, 1, 7};
        for (int ship = 0; ship < 6; ship++) {
            lights.addLeg(6, ship, 5, reaches[ship]);
            lights.subscribe(ship, 6, 0);
        }
        int[] due = {19806, 106, 106, 3066, 10, 906};
        int total = 0;
        for (int ship = 0; ship < 6; ship++) {
            CHECK.equal("shareOf one of six", lights.shareOf(ship), due[ship]);
            CHECK.equal("shareByOrders of one of six", lights.shareByOrders(ship), due[ship]);
            total += lights.shareOf(ship);
        }
        CHECK.equal("all shares", total, lights.costOf(20));
    }

    private static void promise32ByDark() {
        HarborLights lights = Harbors.withMoneys(0, 2000, 0, 5000);
        checkRanks(lights, new int[] {0, 1, 2, 3});
        lights.night();
        checkRanks(lights, new int[] {0, 2, 1, 3});
        lights.subscribe(1, 0, 0);
        checkRanks(lights, new int[] {0, 2, 1, 3, 4});
        lights.leave(0);
        checkRanks(lights, new int[] {1, 0, 2, 3});
        CHECK.fails("rank -1", ELEMENT, () -> lights.subscriberByDark(-1));
        CHECK.fails("rank 4", ELEMENT, () -> lights.subscriberByDark(4));
        CHECK.fails("the greatest rank", ELEMENT, () -> lights.subscriberByDark(Integer.MAX_VALUE));
        CHECK.fails("the least rank", ELEMENT, () -> lights.subscriberByDark(Integer.MIN_VALUE));
        CHECK.fails("nobody", ELEMENT, () -> new HarborLights().subscriberByDark(0));
    }

    private static void checkRanks(HarborLights lights, int[] due) {
        for (int rank = 0; rank < due.length; rank++) {
            CHECK.equal("subscriberByDark", lights.subscriberByDark(rank), due[rank]);
        }
    }

    private static void wrongSubscribers() {
        HarborLights lights = Harbors.withShips();
        for (int ship : new int[] {-1, 3, 6, Integer.MIN_VALUE, Integer.MAX_VALUE}) {
            CHECK.fails("leave", INDEX, () -> lights.leave(ship));
            CHECK.fails("deposit", INDEX, () -> lights.deposit(ship, 1));
            CHECK.fails("startOf", INDEX, () -> lights.startOf(ship));
            CHECK.fails("goalOf", INDEX, () -> lights.goalOf(ship));
            CHECK.fails("moneyOf", INDEX, () -> lights.moneyOf(ship));
            CHECK.fails("needOf", INDEX, () -> lights.needOf(ship));
            CHECK.fails("litNightsOf", INDEX, () -> lights.litNightsOf(ship));
            CHECK.fails("darkNightsOf", INDEX, () -> lights.darkNightsOf(ship));
            CHECK.fails("shareOf", INDEX, () -> lights.shareOf(ship));
            CHECK.fails("shareByOrders", INDEX, () -> lights.shareByOrders(ship));
            CHECK.fails("wouldBeLit", INDEX, () -> lights.wouldBeLit(ship) ? 1 : 0);
            CHECK.fails("writeSubscriber", INDEX, () -> lights.writeSubscriber(ship));
        }
    }
}
