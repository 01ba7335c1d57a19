/** The boundary cases of nights and accounts: promises 33 to 44, and what the terms say of nights. */
final class NightBoundaries {
    private static final Class<IllegalArgumentException> ARGUMENT = IllegalArgumentException.class;
    private static final Class<ArithmeticException> ARITHMETIC = ArithmeticException.class;

    private NightBoundaries() {
    }

    static void run(Sentences sentences) {
        takingPart(sentences);
        terms(sentences);
        sentences.test(33, "- `nights`: the number of nights, 0 to 9", NightBoundaries::fogs);
        sentences.test(33, "Throws `IllegalArgumentException` if the number is out of range",
                check -> Refusal.numbers(check, ARGUMENT, Harbors::lived, HarborLights::setFog, -1, 10, 11,
                        Integer.MIN_VALUE, Integer.MAX_VALUE));
        sentences.test(34, "Returns the number of nights with fog that are to come.", NightBoundaries::fogToCome);
        sentences.test(35, "Returns the number of subscribers for which it is a lit one.",
                NightBoundaries::nobodyToAllSix);
        sentences.test(36, "Throws `IndexOutOfBoundsException` if there is no such subscriber",
                check -> Refusal.noSuchSubscriber(check, (lights, ship) -> lights.wouldBeLit(ship) ? 1 : 0));
        sentences.test(36, "Returns whether the next night would be a lit one for a subscriber.",
                NightBoundaries::wouldJustBeLit);
        sentences.test(37, "Returns the range that the next night would have.", NightBoundaries::nextRanges);
        sentences.test(38, "Returns the range of the light: that of the last night.", NightBoundaries::lastRange);
        sentences.test(40, "- `range`: the range, 0 to 20", NightBoundaries::costs);
        sentences.test(40, "Throws `IllegalArgumentException` if the range is out of range",
                check -> Refusal.numbers(check, ARGUMENT, Harbors::lived, HarborLights::costOf, -1, 21, 22,
                        Integer.MIN_VALUE, Integer.MAX_VALUE));
        sentences.test(42, "Returns the money that was refunded so far.", NightBoundaries::refundedSoFar);
        sentences.test(43, "Throws `ArithmeticException` if there are no subscribers", NightBoundaries::meanOfNobody);
        sentences.test(44, "Throws `ArithmeticException` if they had no nights", NightBoundaries::shareOfNoNights);
    }

    private static void takingPart(Sentences sentences) {
        String poor = "As long as the money of one of those that take part is less than its share among them, the one "
                + "of these with the lowest number does not take part any more.";
        sentences.test("Terms", "First, all subscribers that have a route take part.", NightBoundaries::noRoute);
        sentences.test("Terms", poor, NightBoundaries::justEnough);
        sentences.test("Terms", poor, NightBoundaries::sharesAreFoundAgain);
        sentences.test("Terms", poor, NightBoundaries::untilNobodyIsLeft);
        sentences.test("Terms", "A subscriber who pays for a night has a lit route in this night.",
                NightBoundaries::litRoutes);
    }

    private static void terms(Sentences sentences) {
        String fog = "Fourth, if there is fog, each of those that take part gets half of its share, rounded down, back "
                + "from the fund, and the number of nights with fog decreases by 1.";
        sentences.test("Terms", "Second, the range becomes the greatest need of those that take part, or 0 if nobody "
                + "does.", NightBoundaries::rangeOfThoseThatAreLeft);
        sentences.test("Terms", "Third, each of those that take part pays its share to the fund of the syndicate, and "
                + "the night is a lit one for it; for each other subscriber, the night is a dark one.",
                NightBoundaries::litOrDark);
        sentences.test("Terms", fog, NightBoundaries::roundedDown);
        sentences.test("Terms", fog, NightBoundaries::lastFog);
        sentences.test("Terms", fog, NightBoundaries::nothingForThoseInTheDark);
        sentences.test("Terms", "Fifth, the meter of each leg that is lit increases by 1.",
                NightBoundaries::metersAtTheRange);
        sentences.test("Terms", "Last, the number of nights increases by 1.", NightBoundaries::nightsOfAllKinds);
        sentences.test("Terms", "A night with fog counts as one also if no subscriber takes part in it.",
                NightBoundaries::fogWithoutAnybody);
    }

    private static void checkMoneys(Check check, HarborLights lights, int... due) {
        for (int ship = 0; ship < due.length; ship++) {
            check.equal("money of " + ship, lights.moneyOf(ship), due[ship]);
        }
    }

    private static void noRoute(Check check) {
        HarborLights lights = Harbors.withMoneys(9999, 9999);
        lights.removeLeg(0, 1);
        check.equal("nobody has a route", lights.night(), 0);
        checkMoneys(check, lights, 9999, 9999);
        check.equal("dark", lights.darkNightsOf(0), 1);
        lights.addLeg(0, 1, 1, 1);
        check.equal("both have one again", lights.night(), 2);
        checkMoneys(check, lights, 9969, 9969);
        lights.addPort();
        lights.addLeg(0, 2, 1, 2);
        lights.subscribe(1, 2, 9999);
        lights.removeLeg(0, 2);
        check.equal("the third has none", lights.night(), 2);
        checkMoneys(check, lights, 9939, 9939, 9999);
    }

    private static void justEnough(Check check) {
        int[][] moneys = {{960}, {480, 480}, {320, 320, 320}, {160, 160, 160, 160, 160, 160}};
        for (int[] money : moneys) {
            int count = money.length;
            HarborLights lights = Harbors.withMoneys(money);
            check.equal("as much as the share", lights.night(), count);
            checkMoneys(check, lights, new int[count]);
            money[count - 1]--;
            HarborLights less = Harbors.withMoneys(money);
            check.equal("a grain less", less.night(), 0);
            checkMoneys(check, less, money);
            less.setFog(1);
            check.equal("a grain less, of which half would come back", less.night(), 0);
            checkMoneys(check, less, money);
        }
    }

    /** The share of nobody falls when another one drops out, so the same ones are left in whatever order they go. */
    private static void sharesAreFoundAgain(Check check) {
        HarborLights last = Harbors.withMoneys(9999, 479, 319);
        check.equal("320 is too much for the third, then 480 for the second", last.night(), 1);
        checkMoneys(check, last, 9039, 479, 319);
        HarborLights first = Harbors.withMoneys(319, 479, 9999);
        check.equal("320 is too much for the first, then 480 for the second", first.night(), 1);
        checkMoneys(check, first, 319, 479, 9039);
        HarborLights between = Harbors.withMoneys(480, 319, 480);
        check.equal("the others can pay without the second", between.night(), 2);
        checkMoneys(check, between, 0, 319, 0);
        // Needs 2, 9 and 3: shares 80, 4550 and 230 of all three, then 270 and 4590 without the first.
        HarborLights steps = Harbors.withChart();
        steps.subscribe(0, 2, 79);
        steps.subscribe(3, 1, 4589);
        steps.subscribe(0, 1, 540);
        check.equal("the first, then the second", steps.night(), 1);
        checkMoneys(check, steps, 79, 4589, 0);
        HarborLights enough = Harbors.withChart();
        enough.subscribe(0, 2, 79);
        enough.subscribe(3, 1, 4590);
        enough.subscribe(0, 1, 270);
        check.equal("the first alone", enough.night(), 2);
        checkMoneys(check, enough, 79, 0, 0);
    }

    private static void untilNobodyIsLeft(Check check) {
        HarborLights lights = Harbors.withMoneys(0, 191, 239, 319, 479, 959);
        check.equal("all six drop out, one by one", lights.night(), 0);
        checkMoneys(check, lights, 0, 191, 239, 319, 479, 959);
        HarborLights one = Harbors.withMoneys(0, 191, 239, 319, 479, 960);
        check.equal("the sixth is left", one.night(), 1);
        checkMoneys(check, one, 0, 191, 239, 319, 479, 0);
        check.equal("nobody at all", new HarborLights().night(), 0);
    }

    private static void litRoutes(Check check) {
        HarborLights lights = Harbors.withShips();
        lights.night();
        check.yes("a lit route for each", lights.litDistance(0, 1) > 0 && lights.litDistance(0, 2) > 0);
        check.yes("at the greatest need too", lights.litDistance(3, 1) > 0);
        lights.night();
        lights.night();
        check.equal("only the first pays now", lights.litNightsOf(0) - lights.litNightsOf(1), 1);
        check.yes("it has a lit route", lights.litDistance(0, 1) > 0);
    }

    private static void rangeOfThoseThatAreLeft(Check check) {
        HarborLights nobody = new HarborLights();
        nobody.night();
        check.equal("without subscribers", nobody.range(), 0);
        HarborLights poor = Harbors.withMoneys(959);
        poor.night();
        check.equal("one that cannot pay", poor.range(), 0);
        HarborLights lights = Harbors.withShips();
        lights.night();
        check.equal("the greatest need of all", lights.range(), 9);
        lights.night();
        lights.night();
        check.equal("the greatest need of those that are left", lights.range(), 3);
        lights.night();
        check.equal("nobody any more", lights.range(), 0);
    }

    private static void litOrDark(Check check) {
        HarborLights lights = Harbors.withMoneys(960, 319, 9999);
        lights.addPort();
        lights.addLeg(0, 2, 1, 20);
        lights.subscribe(0, 2, 9999);
        lights.removeLeg(0, 2);
        check.equal("two of four", lights.night(), 2);
        checkMoneys(check, lights, 480, 319, 9519, 9999);
        check.equal("fund", lights.fund(), 960);
        int[] lit = {1, 0, 1, 0};
        for (int ship = 0; ship < 4; ship++) {
            check.equal("lit nights of " + ship, lights.litNightsOf(ship), lit[ship]);
            check.equal("dark nights of " + ship, lights.darkNightsOf(ship), 1 - lit[ship]);
        }
    }

    private static void roundedDown(Check check) {
        HarborLights lights = Harbors.withPorts(2);
        lights.addLeg(0, 1, 5, 1);
        for (int ship = 0; ship < 4; ship++) {
            lights.subscribe(0, 1, 15);
        }
        lights.setFog(1);
        check.equal("just enough for 15", lights.night(), 4);
        checkMoneys(check, lights, 7, 7, 7, 7);
        check.equal("fund", lights.fund(), 32);
        check.equal("refunded", lights.refunded(), 28);
        HarborLights even = Harbors.withMoneys(960);
        even.setFog(1);
        even.night();
        checkMoneys(check, even, 480);
        check.equal("fund for an even share", even.fund(), 480);
    }

    private static void lastFog(Check check) {
        HarborLights lights = Harbors.withMoneys(9999);
        lights.setFog(2);
        lights.night();
        check.equal("one is left", lights.fogNights(), 1);
        lights.night();
        check.equal("none is left", lights.fogNights(), 0);
        check.equal("refunded", lights.refunded(), 960);
        lights.night();
        check.equal("none is left still", lights.fogNights(), 0);
        check.equal("no refund without fog", lights.refunded(), 960);
        checkMoneys(check, lights, 9999 - 480 - 480 - 960);
    }

    private static void nothingForThoseInTheDark(Check check) {
        HarborLights lights = Harbors.withMoneys(0, 960);
        lights.setFog(9);
        lights.night();
        checkMoneys(check, lights, 0, 480);
        check.equal("refunded", lights.refunded(), 480);
        lights.night();
        checkMoneys(check, lights, 0, 480);
        check.equal("refunded to nobody", lights.refunded(), 480);
    }

    private static void metersAtTheRange(Check check) {
        HarborLights lights = Harbors.withMoneys(9999);
        lights.addPort();
        lights.addPort();
        lights.addLeg(1, 2, 1, 3);
        lights.addLeg(2, 3, 1, 5);
        lights.addLeg(0, 3, 99, 4);
        lights.night();
        check.equal("reach 3 at range 4", lights.meterOf(1, 2), 1);
        check.equal("reach 4 at range 4", lights.meterOf(0, 1), 1);
        check.equal("reach 4 on no route of the subscriber", lights.meterOf(0, 3), 1);
        check.equal("reach 5 at range 4", lights.meterOf(2, 3), 0);
        lights.leave(0);
        lights.night();
        check.equal("no range", lights.meterOf(1, 2), 1);
        HarborLights full = Harbors.livedFull();
        for (int position = 0; position < 20; position++) {
            check.equal("all of 20 lit legs", full.meterOf(full.lowerPortAt(position), full.upperPortAt(position)), 1);
        }
    }

    private static void nightsOfAllKinds(Check check) {
        HarborLights lights = new HarborLights();
        check.equal("nights at first", lights.nightCount(), 0);
        lights.night();
        check.equal("a night without anybody", lights.nightCount(), 1);
        lights.setFog(1);
        lights.night();
        check.equal("a night with fog", lights.nightCount(), 2);
        HarborLights paid = Harbors.withMoneys(960);
        paid.night();
        check.equal("a lit night", paid.nightCount(), 1);
        paid.night();
        check.equal("a dark night", paid.nightCount(), 2);
    }

    private static void fogWithoutAnybody(Check check) {
        HarborLights nobody = new HarborLights();
        nobody.setFog(2);
        nobody.night();
        check.equal("without subscribers", nobody.fogNights(), 1);
        nobody.night();
        nobody.night();
        check.equal("not below 0", nobody.fogNights(), 0);
        HarborLights poor = Harbors.withMoneys(0);
        poor.setFog(9);
        poor.night();
        check.equal("nobody can pay", poor.fogNights(), 8);
        poor.removeLeg(0, 1);
        poor.night();
        check.equal("nobody has a route", poor.fogNights(), 7);
        check.equal("no refund", poor.refunded(), 0);
    }

    private static void fogs(Check check) {
        HarborLights lights = new HarborLights();
        int previous = 0;
        for (int nights : new int[] {9, 0, 1, 8, 9, 9, 0, 0}) {
            check.equal("previous number", lights.setFog(nights), previous);
            check.equal("number", lights.fogNights(), nights);
            previous = nights;
        }
    }

    private static void fogToCome(Check check) {
        HarborLights lights = Harbors.withMoneys(5);
        check.equal("none at first", lights.fogNights(), 0);
        lights.setFog(9);
        for (int left = 8; left >= 0; left--) {
            lights.night();
            check.equal("to come", lights.fogNights(), left);
        }
        lights.night();
        check.equal("none to come", lights.fogNights(), 0);
    }

    private static void nobodyToAllSix(Check check) {
        check.equal("no subscribers", Harbors.withMoneys().night(), 0);
        for (int count = 1; count <= 6; count++) {
            HarborLights lights = Harbors.full();
            for (int ship = 5; ship >= count; ship--) {
                lights.leave(ship);
            }
            int due = 200 >= 540 / count ? count : 0;
            check.equal("one night for each of " + count, lights.night(), due);
        }
    }

    private static void wouldJustBeLit(Check check) {
        check.yes("just enough", Harbors.withMoneys(960).wouldBeLit(0));
        check.no("a grain less", Harbors.withMoneys(959).wouldBeLit(0));
        HarborLights six = Harbors.withMoneys(159, 191, 239, 319, 479, 960);
        for (int ship = 0; ship < 6; ship++) {
            check.equal("one of six: " + ship, six.wouldBeLit(ship) ? 1 : 0, ship == 5 ? 1 : 0);
        }
        HarborLights lost = Harbors.withMoneys(9999);
        lost.removeLeg(0, 1);
        check.no("no route", lost.wouldBeLit(0));
        check.equal("asking is no night", lost.nightCount(), 0);
    }

    private static void nextRanges(Check check) {
        check.equal("no subscribers", new HarborLights().nextRange(), 0);
        check.equal("just enough", Harbors.withMoneys(960).nextRange(), 4);
        check.equal("a grain less", Harbors.withMoneys(959).nextRange(), 0);
        HarborLights lights = Harbors.withMoneys(9999);
        lights.removeLeg(0, 1);
        check.equal("no route", lights.nextRange(), 0);
        lights.addLeg(0, 1, 1, 20);
        lights.deposit(0, 9999);
        check.equal("too little for the greatest range", lights.nextRange(), 0);
        lights.deposit(0, 4002);
        check.equal("just enough for the greatest range", lights.nextRange(), 20);
        check.equal("the range is another", lights.range(), 0);
        lights.night();
        check.equal("nobody can pay now", lights.nextRange(), 0);
        check.equal("the range of the last night", lights.range(), 20);
    }

    private static void lastRange(Check check) {
        HarborLights lights = Harbors.withMoneys(960);
        check.equal("before the first night", lights.range(), 0);
        lights.night();
        check.equal("of the only night", lights.range(), 4);
        lights.leave(0);
        lights.removeLeg(0, 1);
        check.equal("of the last night still", lights.range(), 4);
        lights.night();
        check.equal("of a night without anybody", lights.range(), 0);
        lights.undo();
        check.equal("of the night before", lights.range(), 4);
    }

    private static void costs(Check check) {
        HarborLights lights = new HarborLights();
        for (int range = 0; range <= 20; range++) {
            check.equal("cost of " + range, lights.costOf(range), 60 * range * range);
        }
    }

    private static void refundedSoFar(Check check) {
        HarborLights lights = Harbors.withMoneys(9999);
        check.equal("nothing so far", lights.refunded(), 0);
        lights.night();
        check.equal("nothing without fog", lights.refunded(), 0);
        lights.setFog(1);
        lights.night();
        check.equal("one night", lights.refunded(), 480);
        lights.leave(0);
        check.equal("kept when it left", lights.refunded(), 480);
        check.equal("the fund too", lights.fund(), 1440);
    }

    private static void meanOfNobody(Check check) {
        Refusal.check(check, "a new object", ARITHMETIC, HarborLights::new, HarborLights::meanMoney);
        Refusal.check(check, "after the last one left", ARITHMETIC, () -> {
            HarborLights lights = Harbors.withMoneys(5);
            lights.leave(0);
            return lights;
        }, HarborLights::meanMoney);
        check.equal("one without money", Harbors.withMoneys(0).meanMoney(), 0);
        check.equal("six", Harbors.withMoneys(0, 0, 0, 0, 0, 1).meanMoney(), 1.0 / 6.0);
    }

    private static void shareOfNoNights(Check check) {
        Refusal.check(check, "a new object", ARITHMETIC, HarborLights::new, HarborLights::litShare);
        Refusal.check(check, "before the first night", ARITHMETIC, () -> Harbors.withMoneys(5, 5),
                HarborLights::litShare);
        Refusal.check(check, "a night without anybody", ARITHMETIC, () -> {
            HarborLights lights = Harbors.withMoneys();
            lights.night();
            lights.subscribe(0, 1, 5);
            return lights;
        }, HarborLights::litShare);
        Refusal.check(check, "after the one with nights left", ARITHMETIC, () -> {
            HarborLights lights = Harbors.withMoneys(5);
            lights.night();
            lights.subscribe(0, 1, 5);
            lights.leave(0);
            return lights;
        }, HarborLights::litShare);
        HarborLights dark = Harbors.withMoneys(0);
        dark.night();
        check.equal("one dark night", dark.litShare(), 0);
        HarborLights lit = Harbors.withMoneys(960);
        lit.night();
        check.equal("one lit night", lit.litShare(), 1);
        lit.night();
        check.equal("one of two", lit.litShare(), 0.5f);
    }
}
