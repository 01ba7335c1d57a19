import java.util.NoSuchElementException;

/** The boundary cases of undo, snapshots and exceptions: promises 53 to 55, and what the terms say of them. */
final class UndoBoundaries {
    private static final Class<IndexOutOfBoundsException> INDEX = IndexOutOfBoundsException.class;
    private static final Class<IllegalArgumentException> ARGUMENT = IllegalArgumentException.class;
    private static final Class<IllegalStateException> STATE = IllegalStateException.class;
    private static final Class<NoSuchElementException> ELEMENT = NoSuchElementException.class;

    private UndoBoundaries() {
    }

    static void run(Sentences sentences) {
        undo(sentences);
        sentences.test(54, "Saves the state as a snapshot, which replaces an earlier snapshot.",
                UndoBoundaries::laterSnapshot);
        sentences.test(54, "Returns the number of subscribers.", UndoBoundaries::subscribersSaved);
        sentences.test(55, "Restores the snapshot, which is kept.", UndoBoundaries::snapshotIsKept);
        sentences.test(55, "Afterwards nothing can be undone.", UndoBoundaries::nothingAfterRestore);
        sentences.test(55, "Throws `IllegalStateException` if there is no snapshot", UndoBoundaries::noSnapshot);
        exceptions(sentences);
        sentences.test("What it is", "An object is used for at most 512 calls after it has been made; what later calls "
                + "answer is free.", UndoBoundaries::callsUpTo512);
    }

    private static void undo(Sentences sentences) {
        String outside = "The text buffer, the error position, the index of the failed command and the line are not "
                + "part of the state that is undone, saved or restored.";
        String modifications = "The modifications are the successful calls of addPort, addLeg, removeLeg, subscribe, "
                + "deposit, leave, setFog, night and execute.";
        sentences.test("Terms", "The last 8 successful modifications can be undone.", UndoBoundaries::eightOfMany);
        sentences.test("Terms", modifications, UndoBoundaries::eachModification);
        sentences.test("Terms", modifications, UndoBoundaries::modificationsWithoutEffect);
        sentences.test("Terms", outside, UndoBoundaries::outsideOfUndo);
        sentences.test("Terms", outside, UndoBoundaries::outsideOfSave);
        sentences.test("Terms", outside, UndoBoundaries::outsideOfRestore);
        sentences.test(53, "Undoes the last modification that can be undone.", UndoBoundaries::around);
        sentences.test(53, "Returns the number of modifications that can still be undone.",
                UndoBoundaries::stillToUndo);
        sentences.test(53, "Throws `IllegalStateException` if there is none", UndoBoundaries::noneToUndo);
    }

    private static void exceptions(Sentences sentences) {
        String first = "If several exceptions apply, the one that is documented first is thrown.";
        sentences.test("Terms", "A method that throws an exception leaves the state unchanged, except that execute "
                + "empties the text buffer.", UndoBoundaries::refusedTexts);
        sentences.test("Terms", first, UndoBoundaries::firstOfTheChart);
        sentences.test("Terms", first, UndoBoundaries::firstOfSubscribers);
        sentences.test("Terms", first, UndoBoundaries::firstOfTexts);
    }

    private static void eightOfMany(Check check) {
        for (int count = 0; count <= 10; count++) {
            HarborLights lights = Harbors.withPorts(count);
            for (int left = Math.min(count, 8) - 1; left >= 0; left--) {
                check.equal("undo of " + count, lights.undo(), left);
            }
            check.equal("ports that are left of " + count, lights.portCount(), Math.max(count - 8, 0));
            check.fails("one more of " + count, STATE, () -> lights.undo());
        }
    }

    private static void eachModification(Check check) {
        checkUndone(check, "addPort", HarborLights::addPort);
        checkUndone(check, "addLeg", lights -> lights.addLeg(0, 4, 1, 1));
        checkUndone(check, "removeLeg", lights -> lights.removeLeg(0, 2));
        checkUndone(check, "subscribe", lights -> lights.subscribe(0, 1, 5));
        checkUndone(check, "deposit", lights -> lights.deposit(0, 5));
        checkUndone(check, "leave", lights -> lights.leave(0));
        checkUndone(check, "setFog", lights -> lights.setFog(9));
        checkUndone(check, "night", HarborLights::night);
        checkUndone(check, "execute", lights -> {
            Harbors.refuse(lights, "~");
            return Harbors.execute(lights, "port;cut 0 2;leave 1;fog 0;night");
        });
    }

    private static void checkUndone(Check check, String what, Refusal.Call modification) {
        HarborLights lights = Harbors.lived();
        lights.restore();
        String before = Harbors.picture(lights);
        modification.on(lights);
        check.no(what + " changes nothing", Harbors.picture(lights).equals(before));
        check.equal("undo of " + what, lights.undo(), 0);
        check.equal("all after undo of " + what, Harbors.picture(lights), before);
    }

    /** A modification counts as one also where it leaves all as it was. */
    private static void modificationsWithoutEffect(Check check) {
        HarborLights lights = new HarborLights();
        lights.setFog(0);
        check.equal("the same fog", lights.undo(), 0);
        Harbors.execute(lights, "fog 0");
        check.equal("the same fog by a text", lights.undo(), 0);
        Harbors.execute(lights, "port;port;leg 0 1 1 1;night");
        check.equal("a text is one modification", lights.undo(), 0);
        check.equal("all of it is undone", lights.portCount() + lights.nightCount(), 0);
        HarborLights harbor = Harbors.lived();
        for (int i = 0; i < 8; i++) {
            harbor.undo();
        }
        harbor.save();
        harbor.isConsistent();
        harbor.nextRange();
        harbor.writeLeg(0);
        harbor.type('x');
        check.fails("neither questions nor save, line and text are", STATE, () -> harbor.undo());
    }

    private static void outsideOfUndo(Check check) {
        HarborLights lights = Harbors.lived();
        for (int i = 0; i < 8; i++) {
            lights.undo();
        }
        checkOutside(check, lights);
    }

    private static void outsideOfSave(Check check) {
        HarborLights lights = Harbors.lived();
        lights.save();
        checkOutside(check, lights);
    }

    private static void outsideOfRestore(Check check) {
        HarborLights lights = Harbors.lived();
        lights.restore();
        checkOutside(check, lights);
        HarborLights early = new HarborLights();
        early.addPort();
        early.save();
        early.addPort();
        early.addLeg(0, 1, 5, 5);
        early.writeLeg(0);
        Harbors.refuse(early, "~");
        Harbors.refuse(early, "leave 0");
        early.type('p');
        early.restore();
        check.equal("the line", Harbors.line(early, 7), "0-1:5/5");
        check.equal("the error position", early.errorPosition(), 0);
        check.equal("the failed command", early.failedCommand(), 0);
        check.equal("the buffer", early.type('o'), 2);
    }

    private static void checkOutside(Check check, HarborLights lights) {
        check.equal("the line", Harbors.line(lights, 9), "0-2:50/2*");
        check.fails("the line's end", INDEX, () -> lights.lineAt(9));
        check.equal("the error position", lights.errorPosition(), 2);
        check.equal("the failed command", lights.failedCommand(), 1);
        int ports = lights.portCount();
        check.equal("the buffer", lights.type('r'), 8);
        lights.type('t');
        check.equal("its text", lights.execute(), 2);
        check.equal("ports", lights.portCount(), ports + 2);
    }

    /** Eight rows that are used again and again: undo and modifications in turn, more often than there are rows. */
    private static void around(Check check) {
        HarborLights lights = new HarborLights();
        for (int round = 0; round < 12; round++) {
            for (int i = 0; i < 5; i++) {
                lights.night();
            }
            check.equal("nights of round " + round, lights.nightCount(), 2 * round + 5);
            for (int i = 0; i < 3; i++) {
                lights.undo();
            }
            check.equal("nights after undo", lights.nightCount(), 2 * round + 2);
        }
        check.equal("undone so far, but five of eight", lights.undo(), 4);
        for (int left = 3; left >= 0; left--) {
            check.equal("undo", lights.undo(), left);
        }
        check.equal("nights", lights.nightCount(), 19);
        check.fails("no more", STATE, () -> lights.undo());
    }

    private static void stillToUndo(Check check) {
        HarborLights lights = Harbors.withPorts(10);
        check.equal("7 of 8", lights.undo(), 7);
        lights.addPort();
        check.equal("7 of 8 again", lights.undo(), 7);
        lights.addPort();
        lights.setFog(1);
        check.equal("not more than 8", lights.undo(), 7);
        for (int left = 6; left >= 0; left--) {
            check.equal("undo", lights.undo(), left);
        }
        lights.addPort();
        check.equal("the only one", lights.undo(), 0);
    }

    private static void noneToUndo(Check check) {
        Refusal.check(check, "a new object", STATE, HarborLights::new, HarborLights::undo);
        Refusal.check(check, "after all eight", STATE, () -> {
            HarborLights lights = Harbors.lived();
            for (int i = 0; i < 8; i++) {
                lights.undo();
            }
            return lights;
        }, HarborLights::undo);
        Refusal.check(check, "after the only one", STATE, () -> {
            HarborLights lights = Harbors.withPorts(1);
            lights.undo();
            return lights;
        }, HarborLights::undo);
        Refusal.check(check, "after restore", STATE, () -> {
            HarborLights lights = Harbors.lived();
            lights.restore();
            return lights;
        }, HarborLights::undo);
        Refusal.check(check, "after a refused modification", STATE, () -> {
            HarborLights lights = new HarborLights();
            Harbors.refuse(lights, "leave 0");
            return lights;
        }, HarborLights::undo);
    }

    private static void laterSnapshot(Check check) {
        HarborLights lights = Harbors.withMoneys(5, 6, 7);
        lights.save();
        lights.leave(0);
        lights.save();
        lights.leave(0);
        lights.restore();
        check.equal("subscribers of the later one", lights.subscriberCount(), 2);
        check.equal("money of the later one", lights.moneyOf(0), 6);
        lights.leave(0);
        lights.leave(0);
        lights.save();
        lights.addPort();
        lights.restore();
        check.equal("an empty one replaces it too", lights.subscriberCount(), 0);
        check.equal("ports", lights.portCount(), 2);
        lights.addPort();
        lights.save();
        check.equal("what was before it can be undone", lights.undo(), 0);
        lights.restore();
        check.equal("the snapshot is not undone", lights.portCount(), 3);
    }

    private static void subscribersSaved(Check check) {
        check.equal("none", new HarborLights().save(), 0);
        check.equal("six", Harbors.full().save(), 6);
        HarborLights lights = Harbors.full();
        lights.leave(0);
        check.equal("five", lights.save(), 5);
        check.equal("five again", lights.restore(), 5);
    }

    private static void snapshotIsKept(Check check) {
        HarborLights lights = Harbors.livedFull();
        lights.restore();
        String saved = Harbors.picture(lights);
        lights.night();
        lights.leave(5);
        check.equal("restore again", lights.restore(), 6);
        check.equal("the same again", Harbors.picture(lights), saved);
        HarborLights undone = Harbors.withPorts(2);
        undone.save();
        undone.undo();
        undone.undo();
        check.equal("kept while all is undone", undone.restore(), 0);
        check.equal("ports", undone.portCount(), 2);
        undone.restore();
        check.equal("restored without a change", undone.portCount(), 2);
        HarborLights empty = new HarborLights();
        empty.save();
        empty.addPort();
        empty.restore();
        check.equal("the snapshot of a new object", empty.portCount(), 0);
    }

    private static void nothingAfterRestore(Check check) {
        HarborLights lights = Harbors.lived();
        lights.restore();
        check.fails("not what was before the snapshot", STATE, () -> lights.undo());
        lights.addPort();
        check.equal("what came later", lights.undo(), 0);
        check.fails("no more", STATE, () -> lights.undo());
        for (int i = 0; i < 9; i++) {
            lights.night();
        }
        check.equal("eight again", lights.undo(), 7);
        lights.restore();
        check.fails("nothing again", STATE, () -> lights.undo());
    }

    private static void noSnapshot(Check check) {
        Refusal.check(check, "a new object", STATE, HarborLights::new, HarborLights::restore);
        Refusal.check(check, "without a snapshot", STATE, Harbors::withShips, HarborLights::restore);
        HarborLights lights = Harbors.withPorts(3);
        check.fails("no snapshot", STATE, () -> lights.restore());
        check.equal("all can still be undone", lights.undo(), 2);
        lights.save();
        check.equal("a snapshot", lights.restore(), 0);
    }

    /** The refused calls of all other methods are looked at by the tests of their own sentences. */
    private static void refusedTexts(Check check) {
        String[] texts = {"", "~", "port;night;fog 3;", "port;por", "leave 9",
            "port;night;pay 0 9;leave 0;fog 3;leave 9"};
        for (String text : texts) {
            HarborLights lights = Harbors.lived();
            Harbors.refuse(lights, "~");
            Harbors.refuse(lights, text);
            check.equal("the buffer is empty after " + text, lights.type('x'), 1);
            HarborLights twin = Harbors.lived();
            Harbors.refuse(twin, "~");
            twin.type('x');
            check.equal("all after " + text, stateOf(lights), stateOf(twin));
        }
    }

    /** All but the error position and the failed command. */
    private static String stateOf(HarborLights lights) {
        return Harbors.everything(lights).replaceFirst("; malformed \\d+; failed \\d+", "");
    }

    private static void firstOfTheChart(Check check) {
        HarborLights full = Harbors.full();
        check.fails("no port, same port, numbers, 20 legs", INDEX, () -> full.addLeg(10, 10, 0, 0));
        check.fails("no other port, numbers, 20 legs", INDEX, () -> full.addLeg(0, 10, 100, 21));
        check.fails("same port, 20 legs", ARGUMENT, () -> full.addLeg(8, 8, 1, 1));
        check.fails("length, 20 legs", ARGUMENT, () -> full.addLeg(8, 9, 0, 1));
        check.fails("reach, a leg that is there", ARGUMENT, () -> full.addLeg(0, 1, 1, 21));
        check.fails("no port to remove a leg from", INDEX, () -> full.removeLeg(10, 10));
        check.fails("no port for a length", INDEX, () -> full.lengthOf(10, 10));
        check.fails("no port for a reach", INDEX, () -> full.reachOf(-1, -1));
        check.fails("no port for a meter", INDEX, () -> full.meterOf(10, 10));
        check.fails("no port for light", INDEX, () -> full.isLit(-1, -1) ? 1 : 0);
        check.fails("no port for a distance", INDEX, () -> full.distance(10, 10));
        check.fails("no port for a distance by rounds", INDEX, () -> full.distanceByRounds(10, 10));
        check.fails("no port for a lit distance", INDEX, () -> full.litDistance(10, 0));
        check.fails("no port, same port", INDEX, () -> full.neededRange(10, 10));
        check.fails("no port, same port, by trial", INDEX, () -> full.neededRangeByTrial(-1, -1));
        HarborLights dark = Harbors.withPorts(2);
        check.fails("same port, no route", ARGUMENT, () -> dark.neededRange(1, 1));
        check.fails("same port, no route, by trial", ARGUMENT, () -> dark.neededRangeByTrial(1, 1));
    }

    private static void firstOfSubscribers(Check check) {
        HarborLights full = Harbors.full();
        check.fails("no port, same port, money, six", INDEX, () -> full.subscribe(10, 10, -1));
        check.fails("no other port, money, six", INDEX, () -> full.subscribe(0, 10, 10000));
        check.fails("same port, six", ARGUMENT, () -> full.subscribe(9, 9, 5));
        check.fails("money, six", ARGUMENT, () -> full.subscribe(0, 9, 10000));
        HarborLights six = Harbors.withMoneys(1, 2, 3, 4, 5, 6);
        six.addPort();
        check.fails("money, six, no route", ARGUMENT, () -> six.subscribe(0, 2, -1));
        check.fails("six, no route", STATE, () -> six.subscribe(0, 2, 5));
        check.fails("no subscriber, amount", INDEX, () -> six.deposit(6, 0));
        check.fails("no subscriber, greatest amount", INDEX, () -> six.deposit(-1, 10000));
        six.removeLeg(0, 1);
        check.fails("no subscriber for a need", INDEX, () -> six.needOf(6));
        check.fails("no subscriber for a share", INDEX, () -> six.shareOf(6));
        check.fails("no subscriber for a share by orders", INDEX, () -> six.shareByOrders(-1));
        check.fails("no route for a need", ELEMENT, () -> six.needOf(5));
    }

    private static void firstOfTexts(Check check) {
        HarborLights lights = new HarborLights();
        for (int i = 0; i < 60; i++) {
            lights.type(' ');
        }
        check.fails("a wrong character, a full buffer", ARGUMENT, () -> lights.type((char) 31));
        check.fails("a full buffer", STATE, () -> lights.type(' '));
        Harbors.refuse(lights, "");
        Harbors.type(lights, "leave 9;leave");
        check.fails("malformed, failing", ARGUMENT, () -> lights.execute());
        check.fails("no command failed", ELEMENT, () -> lights.failedCommand());
    }

    /** A light for 24000 grains, 5000 of which come in by each deposit, until the 512th call. */
    private static void callsUpTo512(Check check) {
        HarborLights lights = Harbors.withPorts(2);
        lights.addLeg(0, 1, 99, 20);
        lights.subscribe(0, 1, 0);
        int calls = 4;
        int lit = 0;
        int money = 0;
        for (; calls < 506; calls += 2) {
            money += 5000;
            check.equal("money at call " + (calls + 1), lights.deposit(0, 5000), money);
            boolean paid = money >= 24000;
            check.equal("night at call " + (calls + 2), lights.night(), paid ? 1 : 0);
            lit += paid ? 1 : 0;
            money -= paid ? 24000 : 0;
        }
        check.equal("lit nights", lights.litNightsOf(0), lit);
        check.equal("fund", lights.fund(), 24000L * lit);
        check.equal("meter", lights.meterOf(0, 1), lit);
        check.yes("consistent", lights.isConsistent());
        check.equal("undo", lights.undo(), 7);
        check.equal("the 512th call", lights.nightCount(), 250);
        check.equal("calls", calls + 6, 512);
    }
}
