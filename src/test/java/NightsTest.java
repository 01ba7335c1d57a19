/** Promises 33 to 44: fog, nights and accounts. */
public final class NightsTest {
    private static final Class<IllegalArgumentException> ARGUMENT = IllegalArgumentException.class;
    private static final Class<ArithmeticException> ARITHMETIC = ArithmeticException.class;
    private static final Check CHECK = new Check("NightsTest");

    public static void main(String[] args) {
        promises33And34Fog();
        promise35FirstNights();
        promise35DropOut();
        promise35ExactMoney();
        promise35NoRoute();
        promise35Full();
        promise35Fog();
        promise35FogWithoutShips();
        promises36And37Forecast();
        promises38And39RangeAndCount();
        promise40Cost();
        promises41And42Accounts();
        promise43MeanMoney();
        promise44LitShare();
        CHECK.end();
    }

    private static void promises33And34Fog() {
        HarborLights lights = new HarborLights();
        CHECK.equal("no fog before", lights.setFog(9), 0);
        CHECK.equal("fogNights", lights.fogNights(), 9);
        CHECK.fails("10 nights", ARGUMENT, () -> lights.setFog(10));
        CHECK.fails("-1 nights", ARGUMENT, () -> lights.setFog(-1));
        CHECK.fails("the greatest number", ARGUMENT, () -> lights.setFog(Integer.MAX_VALUE));
        CHECK.fails("the least number", ARGUMENT, () -> lights.setFog(Integer.MIN_VALUE));
        CHECK.equal("fogNights after refused ones", lights.fogNights(), 9);
        CHECK.equal("9 before", lights.setFog(4), 9);
        lights.night();
        CHECK.equal("fogNights after a night", lights.fogNights(), 3);
        CHECK.equal("3 before", lights.setFog(0), 3);
        lights.night();
        CHECK.equal("fogNights does not fall below 0", lights.fogNights(), 0);
    }

    private static void promise35FirstNights() {
        HarborLights lights = Harbors.withShips();
        CHECK.equal("all can pay", lights.night(), 3);
        checkMoneys(lights, 770, 120, 5449);
        CHECK.equal("fund", lights.fund(), 4860);
        CHECK.equal("all can pay again", lights.night(), 3);
        checkMoneys(lights, 540, 40, 899);
        CHECK.equal("one drops out, then another", lights.night(), 1);
        checkMoneys(lights, 0, 40, 899);
        CHECK.equal("range", lights.range(), 3);
        CHECK.equal("fund", lights.fund(), 10260);
        CHECK.equal("nobody", lights.night(), 0);
        CHECK.equal("range without anybody", lights.range(), 0);
        CHECK.equal("nights", lights.nightCount(), 4);
        CHECK.equal("a new object's night", new HarborLights().night(), 0);
    }

    private static void promise35DropOut() {
        HarborLights lights = Harbors.withMoneys(960, 480, 320, 0);
        CHECK.equal("the last cannot pay", lights.night(), 3);
        checkMoneys(lights, 640, 160, 0, 0);
        CHECK.equal("each drops out in turn", lights.night(), 0);
        HarborLights rich = Harbors.withMoneys(300, 300, 9999);
        CHECK.equal("0 drops out, then 1", rich.night(), 1);
        checkMoneys(rich, 300, 300, 9039);
        // Needs 2 and 3: 0 cannot pay 120; alone, 1 would have to pay 540 and not 420.
        HarborLights steps = Harbors.withChart();
        steps.subscribe(0, 2, 119);
        steps.subscribe(0, 1, 539);
        CHECK.equal("shares are found again", steps.night(), 0);
        HarborLights both = Harbors.withMoneys(319, 5000, 319);
        CHECK.equal("both drop out", both.night(), 1);
        CHECK.equal("1 pays all", both.moneyOf(1), 4040);
    }

    private static void promise35ExactMoney() {
        HarborLights exact = Harbors.withMoneys(960);
        CHECK.equal("just enough", exact.night(), 1);
        checkMoneys(exact, 0);
        HarborLights less = Harbors.withMoneys(959);
        CHECK.equal("a grain too little", less.night(), 0);
        checkMoneys(less, 959);
        CHECK.equal("dark", less.darkNightsOf(0), 1);
        CHECK.equal("no light", less.range(), 0);
    }

    private static void promise35NoRoute() {
        HarborLights lights = Harbors.withShips();
        lights.removeLeg(2, 3);
        lights.removeLeg(1, 3);
        CHECK.equal("two have a route", lights.night(), 2);
        checkMoneys(lights, 580, 80, 9999);
        CHECK.equal("dark without a route", lights.darkNightsOf(2), 1);
        CHECK.equal("lit with one", lights.litNightsOf(1), 1);
        CHECK.yes("consistent", lights.isConsistent());
    }

    private static void promise35Full() {
        HarborLights lights = Harbors.full();
        CHECK.yes("consistent", lights.isConsistent());
        CHECK.equal("groups in the dark", lights.litGroups(), 10);
        CHECK.equal("all six", lights.night(), 6);
        checkMoneys(lights, 110, 110, 110, 110, 110, 110);
        CHECK.equal("groups", lights.litGroups(), 1);
        for (int i = 0; i < 20; i++) {
            CHECK.equal("meter", lights.meterOf(lights.lowerPortAt(i), lights.upperPortAt(i)), 1);
        }
        CHECK.equal("all six again", lights.night(), 6);
        CHECK.equal("nobody can pay", lights.night(), 0);
        for (int rank = 0; rank < 6; rank++) {
            CHECK.equal("subscriberByDark", lights.subscriberByDark(rank), rank);
            CHECK.equal("darkNightsOf", lights.darkNightsOf(rank), 1);
        }
        CHECK.equal("litShare", lights.litShare(), 12.0f / 18.0f);
        CHECK.equal("meanMoney", lights.meanMoney(), 20.0);
        CHECK.yes("consistent", lights.isConsistent());
        lights.leave(5);
        CHECK.equal("share among five", lights.shareOf(4), 108);
        CHECK.equal("share among five, by orders", lights.shareByOrders(4), 108);
        CHECK.fails("no sixth", java.util.NoSuchElementException.class, () -> lights.subscriberByDark(5));
    }

    private static void promise35Fog() {
        HarborLights lights = Harbors.withPorts(2);
        lights.addLeg(0, 1, 5, 1);
        for (int ship = 0; ship < 4; ship++) {
            lights.subscribe(0, 1, 100);
        }
        lights.setFog(1);
        CHECK.equal("a night with fog", lights.night(), 4);
        checkMoneys(lights, 92, 92, 92, 92);
        CHECK.equal("half of 15 is 7", lights.refunded(), 28);
        CHECK.equal("fund", lights.fund(), 32);
        CHECK.equal("fog is over", lights.fogNights(), 0);
        CHECK.equal("a night without fog", lights.night(), 4);
        checkMoneys(lights, 77, 77, 77, 77);
        CHECK.equal("refunded", lights.refunded(), 28);
        CHECK.equal("fund", lights.fund(), 92);
        CHECK.yes("consistent", lights.isConsistent());
        HarborLights poor = Harbors.withMoneys(959);
        poor.setFog(2);
        CHECK.equal("the whole share is due before the refund", poor.night(), 0);
        CHECK.equal("nothing is refunded to those in the dark", poor.refunded(), 0);
    }

    private static void promise35FogWithoutShips() {
        HarborLights lights = new HarborLights();
        lights.setFog(2);
        lights.night();
        CHECK.equal("a night with fog although nobody takes part", lights.fogNights(), 1);
        CHECK.equal("refunded", lights.refunded(), 0);
    }

    private static void promises36And37Forecast() {
        HarborLights lights = Harbors.withShips();
        lights.night();
        lights.night();
        String before = Harbors.picture(lights);
        CHECK.yes("0 can pay after the others dropped out", lights.wouldBeLit(0));
        CHECK.no("1 cannot pay", lights.wouldBeLit(1));
        CHECK.no("2 cannot pay then", lights.wouldBeLit(2));
        CHECK.equal("nextRange", lights.nextRange(), 3);
        CHECK.equal("the present range", lights.range(), 9);
        CHECK.equal("asking changes nothing", Harbors.picture(lights), before);
        lights.deposit(1, 9999);
        CHECK.yes("1 can pay now", lights.wouldBeLit(1));
        lights.removeLeg(0, 2);
        CHECK.equal("needs may change", lights.nextRange(), 5);
        lights.removeLeg(1, 2);
        lights.removeLeg(0, 1);
        CHECK.no("no route", lights.wouldBeLit(1));
        HarborLights none = Harbors.withMoneys(959);
        CHECK.equal("nobody can pay", none.nextRange(), 0);
    }

    private static void promises38And39RangeAndCount() {
        HarborLights lights = Harbors.withShips();
        CHECK.equal("range before the first night", lights.range(), 0);
        lights.night();
        CHECK.equal("range", lights.range(), 9);
        CHECK.equal("nightCount", lights.nightCount(), 1);
        lights.leave(2);
        CHECK.equal("that of the last night", lights.range(), 9);
        lights.night();
        CHECK.equal("range", lights.range(), 3);
        CHECK.equal("nightCount", lights.nightCount(), 2);
    }

    private static void promise40Cost() {
        HarborLights lights = new HarborLights();
        for (int range = 0; range <= 20; range++) {
            CHECK.equal("costOf " + range, lights.costOf(range), 60 * range * range);
        }
        for (int range : new int[] {-1, 21, Integer.MIN_VALUE, Integer.MAX_VALUE}) {
            CHECK.fails("costOf " + range, ARGUMENT, () -> lights.costOf(range));
        }
    }

    private static void promises41And42Accounts() {
        HarborLights lights = Harbors.withShips();
        lights.setFog(1);
        lights.night();
        CHECK.equal("refunded", lights.refunded(), 2430);
        CHECK.equal("fund", lights.fund(), 2430);
        lights.leave(2);
        CHECK.equal("refunded stays", lights.refunded(), 2430);
        CHECK.equal("fund stays", lights.fund(), 2430);
    }

    private static void promise43MeanMoney() {
        HarborLights lights = Harbors.withMoneys(1, 0, 0);
        CHECK.equal("meanMoney", lights.meanMoney(), 1.0 / 3.0);
        lights.deposit(1, 6);
        CHECK.equal("meanMoney", lights.meanMoney(), 7.0 / 3.0);
        lights.leave(0);
        CHECK.equal("of the present ones", lights.meanMoney(), 3.0);
        CHECK.fails("nobody", ARITHMETIC, () -> new HarborLights().meanMoney());
        lights.leave(0);
        lights.leave(0);
        CHECK.fails("nobody is left", ARITHMETIC, () -> lights.meanMoney());
        CHECK.equal("no money", Harbors.withMoneys(0).meanMoney(), 0.0);
    }

    private static void promise44LitShare() {
        HarborLights lights = Harbors.withMoneys(2000, 0, 0);
        CHECK.fails("no nights", ARITHMETIC, () -> lights.litShare());
        lights.night();
        CHECK.equal("a third", lights.litShare(), 1.0f / 3.0f);
        lights.leave(2);
        CHECK.equal("of the present ones", lights.litShare(), 0.5f);
        lights.leave(0);
        CHECK.equal("no lit nights", lights.litShare(), 0.0f);
        lights.leave(0);
        CHECK.fails("nobody", ARITHMETIC, () -> lights.litShare());
        lights.subscribe(0, 1, 5);
        CHECK.fails("nights before it subscribed are not its own", ARITHMETIC, () -> lights.litShare());
    }

    private static void checkMoneys(HarborLights lights, int... due) {
        for (int ship = 0; ship < due.length; ship++) {
            CHECK.equal("moneyOf " + ship, lights.moneyOf(ship), due[ship]);
        }
    }
}
