import java.util.NoSuchElementException;

/** Promises 49 to 52: the text buffer and its commands. */
public final class TextTest {
    private static final Class<IllegalArgumentException> ARGUMENT = IllegalArgumentException.class;
    private static final Class<IllegalStateException> STATE = IllegalStateException.class;
    private static final Class<NoSuchElementException> ELEMENT = NoSuchElementException.class;
    private static final Check CHECK = new Check("TextTest");

    public static void main(String[] args) {
        promise49Type();
        promise50Commands();
        promise50Numbers();
        promise50AllOrNothing();
        promise50EachFailure();
        promise50FullBuffer();
        promise51ErrorPositions();
        promise51LastError();
        promise52FailedCommand();
        CHECK.end();
    }

    private static void promise49Type() {
        HarborLights lights = new HarborLights();
        CHECK.equal("the first character", lights.type((char) 32), 1);
        CHECK.equal("the last character", lights.type((char) 126), 2);
        for (int character : new int[] {0, 10, 31, 127, 128, 255, 65535}) {
            CHECK.fails("type " + character, ARGUMENT, () -> lights.type((char) character));
        }
        for (int length = 3; length <= 60; length++) {
            CHECK.equal("type", lights.type('x'), length);
        }
        CHECK.fails("a 61st character", STATE, () -> lights.type('x'));
        CHECK.fails("a wrong character comes before the full buffer", ARGUMENT, () -> lights.type((char) 127));
        CHECK.fails("malformed", ARGUMENT, () -> lights.execute());
        CHECK.equal("empty afterwards", lights.type('x'), 1);
    }

    private static void promise50Commands() {
        HarborLights lights = new HarborLights();
        CHECK.equal("one command", Harbors.execute(lights, "port"), 1);
        CHECK.equal("empty afterwards", lights.type('p'), 1);
        CHECK.equal("six commands", Harbors.execute(lights, "ort;leg 0 1 9 04;ship 1 0 0960;fog 1;night;pay 0 1"), 6);
        CHECK.equal("ports", lights.portCount(), 2);
        CHECK.equal("length", lights.lengthOf(0, 1), 9);
        CHECK.equal("reach", lights.reachOf(0, 1), 4);
        CHECK.equal("money", lights.moneyOf(0), 481);
        CHECK.equal("refunded", lights.refunded(), 480);
        CHECK.equal("fog", lights.fogNights(), 0);
        CHECK.equal("leave and cut", Harbors.execute(lights, "leave 0;cut 1 0"), 2);
        CHECK.equal("subscribers", lights.subscriberCount(), 0);
        CHECK.equal("legs", lights.legCount(), 0);
        CHECK.equal("fog set", Harbors.execute(lights, "fog 9"), 1);
        CHECK.equal("fog", lights.fogNights(), 9);
        CHECK.yes("consistent", lights.isConsistent());
    }

    private static void promise50Numbers() {
        HarborLights lights = Harbors.withPorts(10);
        Harbors.execute(lights, "leg 9 8 99 20;leg 7 6 1 1;leg 5 4 01 09");
        CHECK.equal("two digits", lights.lengthOf(8, 9), 99);
        CHECK.equal("two digits", lights.reachOf(8, 9), 20);
        CHECK.equal("one digit", lights.lengthOf(6, 7), 1);
        CHECK.equal("a leading zero", lights.reachOf(4, 5), 9);
        Harbors.execute(lights, "ship 9 8 0;ship 8 9 12;ship 9 8 345;ship 8 9 9999");
        int[] due = {0, 12, 345, 9999};
        for (int ship = 0; ship < 4; ship++) {
            CHECK.equal("money", lights.moneyOf(ship), due[ship]);
        }
        Harbors.execute(lights, "pay 3 9999;pay 0 0007");
        CHECK.equal("money", lights.moneyOf(3), 19998);
        CHECK.equal("money", lights.moneyOf(0), 7);
    }

    private static void promise50AllOrNothing() {
        HarborLights lights = Harbors.withShips();
        lights.night();
        String before = Harbors.picture(lights);
        Harbors.type(lights, "port;leg 4 5 9 9;pay 0 77;fog 3;night;cut 0 2;cut 0 2");
        CHECK.fails("the last command fails", STATE, () -> lights.execute());
        CHECK.equal("failedCommand", lights.failedCommand(), 6);
        CHECK.equal("all is taken back", Harbors.picture(lights), before);
        CHECK.equal("the buffer is empty", lights.type('n'), 1);
        CHECK.equal("a later text", Harbors.execute(lights, "ight"), 1);
        Harbors.type(lights, "port;port;portt");
        CHECK.fails("malformed at the end", ARGUMENT, () -> lights.execute());
        CHECK.equal("nothing is executed", lights.portCount(), 5);
        CHECK.equal("failedCommand stays", lights.failedCommand(), 6);
    }

    private static void promise50EachFailure() {
        String[] failing = {"leg 0 9 1 1", "leg 0 0 1 1", "leg 0 4 0 1", "leg 0 4 1 0", "leg 0 4 1 21", "leg 0 1 1 1",
            "cut 0 9", "cut 0 4", "cut 0 0", "ship 0 9 5", "ship 0 0 5", "ship 0 4 5", "pay 3 1", "pay 0 0", "leave 3",
            "leave 9"};
        for (String text : failing) {
            HarborLights lights = Harbors.withShips();
            String before = Harbors.picture(lights);
            Harbors.type(lights, "fog 7;" + text + ";night");
            CHECK.fails(text, STATE, () -> lights.execute());
            CHECK.equal("failedCommand of " + text, lights.failedCommand(), 1);
            CHECK.equal("nothing is changed by " + text, Harbors.picture(lights), before);
        }
        HarborLights full = Harbors.withPorts(10);
        Harbors.type(full, "port");
        CHECK.fails("an 11th port", STATE, () -> full.execute());
        CHECK.equal("failedCommand", full.failedCommand(), 0);
        HarborLights six = Harbors.withMoneys(1, 1, 1, 1, 1);
        Harbors.type(six, "ship 0 1 5;ship 0 1 5");
        CHECK.fails("a 7th subscriber", STATE, () -> six.execute());
        CHECK.equal("failedCommand", six.failedCommand(), 1);
        CHECK.equal("subscribers", six.subscriberCount(), 5);
    }

    private static void promise50FullBuffer() {
        HarborLights lights = Harbors.withPorts(2);
        CHECK.equal("60 characters", Harbors.execute(lights, "night;".repeat(8) + "leg 0 1 5 17"), 9);
        CHECK.equal("reach", lights.reachOf(0, 1), 17);
        CHECK.equal("nights", lights.nightCount(), 8);
        CHECK.equal("ten commands", Harbors.execute(lights, "port;".repeat(8) + "fog 1;fog 2"), 10);
        CHECK.equal("ports", lights.portCount(), 10);
        HarborLights another = new HarborLights();
        Harbors.type(another, "port;".repeat(11) + "port");
        CHECK.fails("12 commands, the 11th fails", STATE, () -> another.execute());
        CHECK.equal("failedCommand", another.failedCommand(), 10);
        checkLongError("night;".repeat(10), 60);
        checkLongError("night;".repeat(9) + "port;p", 60);
        checkLongError("night;".repeat(9) + "leave0", 59);
        checkLongError("night;".repeat(9) + " fog 0", 54);
    }

    private static void checkLongError(String text, int due) {
        CHECK.equal("60 characters", text.length(), 60);
        checkError(text, due);
    }

    private static void promise51ErrorPositions() {
        checkError("", 0);
        checkError(" ", 0);
        checkError(";", 0);
        checkError("Port", 0);
        checkError("p", 1);
        checkError("px", 1);
        checkError("po", 2);
        checkError("paz", 2);
        checkError("poy", 2);
        checkError("por", 3);
        checkError("port ", 4);
        checkError("ports", 4);
        checkError("port;", 5);
        checkError("port;;port", 5);
        checkError("port; port", 5);
        checkError("port,port", 4);
        checkError("l", 1);
        checkError("le", 2);
        checkError("lex", 2);
        checkError("lea", 3);
        checkError("leg", 3);
        checkError("leg0", 3);
        checkError("legs", 3);
        checkError("leg ", 4);
        checkError("leg  0", 4);
        checkError("leg x", 4);
        checkError("leg 00", 5);
        checkError("leg 0 12", 7);
        checkError("leg 0 1 ", 8);
        checkError("leg 0 1 -", 8);
        checkError("leg 0 1 5", 9);
        checkError("leg 0 1 55", 10);
        checkError("leg 0 1 555", 10);
        checkError("leg 0 1 5;", 9);
        checkError("leg 0 1 5 ", 10);
        checkError("leg 0 1 5 123", 12);
        checkError("leg 0 1 5 1 ", 11);
        checkError("leg 0 1 5 1;", 12);
        checkError("cut 0", 5);
        checkError("cut 0 12", 7);
        checkError("cut 10 2", 5);
        checkError("cut 0 1 2", 7);
        checkError("cu 0 1", 2);
        checkError("ship 0 1 12345", 13);
        checkError("ship 0 1 ", 9);
        checkError("ship 0 1;", 8);
        checkError("shi", 3);
        checkError("sx", 1);
        checkError("pay 0 12345", 10);
        checkError("pay 12 1", 5);
        checkError("pa", 2);
        checkError("leav 0", 4);
        checkError("leave", 5);
        checkError("leave 01", 7);
        checkError("leg 0 1 9 9;leave 0;x", 20);
        checkError("fog 10", 5);
        checkError("fog -1", 4);
        checkError("nights", 5);
        checkError("night 1", 5);
        checkError("nigh", 4);
        checkError("night;night;nigh;", 16);
    }

    private static void checkError(String text, int due) {
        HarborLights lights = Harbors.withPorts(2);
        String before = Harbors.picture(lights);
        Harbors.type(lights, text);
        CHECK.fails("\"" + text + "\"", ARGUMENT, () -> lights.execute());
        CHECK.equal("errorPosition of \"" + text + "\"", lights.errorPosition(), due);
        CHECK.equal("nothing is executed of \"" + text + "\"", Harbors.picture(lights), before);
        CHECK.equal("the buffer is empty after \"" + text + "\"", lights.type('x'), 1);
    }

    private static void promise51LastError() {
        HarborLights lights = new HarborLights();
        CHECK.fails("none so far", ELEMENT, () -> lights.errorPosition());
        Harbors.execute(lights, "port");
        CHECK.fails("none after a good text", ELEMENT, () -> lights.errorPosition());
        Harbors.type(lights, "pay 0 1");
        CHECK.fails("a failing text", STATE, () -> lights.execute());
        CHECK.fails("none after a failing text", ELEMENT, () -> lights.errorPosition());
        lights.save();
        Harbors.type(lights, "porq");
        CHECK.fails("a malformed text", ARGUMENT, () -> lights.execute());
        CHECK.equal("errorPosition", lights.errorPosition(), 3);
        Harbors.execute(lights, "port");
        CHECK.equal("a good text leaves it", lights.errorPosition(), 3);
        lights.undo();
        CHECK.equal("undo leaves it", lights.errorPosition(), 3);
        lights.restore();
        CHECK.equal("restore leaves it", lights.errorPosition(), 3);
        CHECK.fails("an empty text", ARGUMENT, () -> lights.execute());
        CHECK.equal("the last one", lights.errorPosition(), 0);
    }

    private static void promise52FailedCommand() {
        HarborLights lights = Harbors.withPorts(2);
        CHECK.fails("none so far", ELEMENT, () -> lights.failedCommand());
        CHECK.fails("a malformed text", ARGUMENT, () -> lights.execute());
        CHECK.fails("none after a malformed text", ELEMENT, () -> lights.failedCommand());
        lights.save();
        Harbors.type(lights, "port;night;leave 0;pay 0 0");
        CHECK.fails("the first that fails", STATE, () -> lights.execute());
        CHECK.equal("failedCommand", lights.failedCommand(), 2);
        Harbors.execute(lights, "port");
        CHECK.equal("a good text leaves it", lights.failedCommand(), 2);
        lights.undo();
        CHECK.equal("undo leaves it", lights.failedCommand(), 2);
        lights.restore();
        CHECK.equal("restore leaves it", lights.failedCommand(), 2);
        Harbors.type(lights, "leave 0");
        CHECK.fails("another failing text", STATE, () -> lights.execute());
        CHECK.equal("the last one", lights.failedCommand(), 0);
    }
}
