import java.util.NoSuchElementException;

/** The boundary cases of command texts: promises 49 to 52, and what the terms say of texts. */
final class TextBoundaries {
    private static final Class<IllegalArgumentException> ARGUMENT = IllegalArgumentException.class;
    private static final Class<IllegalStateException> STATE = IllegalStateException.class;
    private static final Class<NoSuchElementException> ELEMENT = NoSuchElementException.class;

    private static final String GRAMMAR = "A command text has the following grammar, with terminals in quotes: text = "
            + "command { \";\" command }; command = \"port\" | \"leg\" d d n n | \"cut\" d d | \"ship\" d d m | "
            + "\"pay\" d m | \"leave\" d | \"fog\" d | \"night\"; d is a blank and a decimal digit, n is a blank and "
            + "one or two decimal digits, and m is a blank and one to four decimal digits.";
    private static final String POSITION = "The error position of a malformed text is the index of its first character "
            + "that cannot continue any valid text, or its length if it ends too early.";

    private TextBoundaries() {
    }

    static void run(Sentences sentences) {
        terms(sentences);
        sentences.test(49, "Throws `IllegalArgumentException` if the character is not from 32 to 126",
                TextBoundaries::characters);
        sentences.test(49, "Throws `IllegalStateException` if the buffer contains 60 characters",
                TextBoundaries::fullBuffer);
        execution(sentences);
        answers(sentences);
    }

    private static void terms(Sentences sentences) {
        sentences.test("Terms", "Characters are collected in a buffer of at most 60 characters.",
                TextBoundaries::textsOfSixtyCharacters);
        sentences.test("Terms", GRAMMAR, TextBoundaries::oneCommandToEleven);
        sentences.test("Terms", GRAMMAR, TextBoundaries::fewestAndMostDigits);
        sentences.test("Terms", GRAMMAR, TextBoundaries::tooFewAndTooManyDigits);
        sentences.test("Terms", "The commands stand for addPort, addLeg, removeLeg, subscribe, deposit, leave, setFog "
                + "and night, with their parameters in order.", TextBoundaries::parametersInOrder);
        sentences.test("Terms", POSITION, TextBoundaries::cannotContinue);
        sentences.test("Terms", POSITION, TextBoundaries::endsTooEarly);
        sentences.test("Terms", POSITION, TextBoundaries::fullAndMalformed);
    }

    private static void execution(Sentences sentences) {
        String allOrNone = "The commands are executed in order, all of them or none: if a command fails, the effects "
                + "of the commands before it are taken back.";
        String failing = "A command fails if the method for it would throw an exception.";
        sentences.test(50, "Executes the text in the buffer, which is empty afterwards.",
                TextBoundaries::emptyAfterwards);
        sentences.test(50, allOrNone, TextBoundaries::allOrNone);
        sentences.test(50, failing, TextBoundaries::failingOnAChart);
        sentences.test(50, failing, TextBoundaries::failingOnAFullChart);
        sentences.test(50, failing, TextBoundaries::justNotFailing);
        sentences.test(50, "Throws `IllegalArgumentException` if the text is malformed; its error position is stored",
                TextBoundaries::malformed);
        sentences.test(50, "Throws `IllegalStateException` if a command fails; its index is stored",
                TextBoundaries::failed);
    }

    private static void answers(Sentences sentences) {
        sentences.test(51, "Returns the error position of the last malformed text.", TextBoundaries::lastMalformed);
        sentences.test(51, "Throws `NoSuchElementException` if no text was malformed so far",
                TextBoundaries::noneMalformed);
        sentences.test(52, "Returns the index of the command that failed in the last text that had one.",
                TextBoundaries::lastFailed);
        sentences.test(52, "Returns the index of the command, from 0.", TextBoundaries::leastAndGreatestIndex);
        sentences.test(52, "Throws `NoSuchElementException` if no command failed so far", TextBoundaries::noneFailed);
    }

    private static void textsOfSixtyCharacters(Check check) {
        HarborLights lights = new HarborLights();
        String text = "port;".repeat(5) + "fog 1;night;fog 2;night;fog 3;fog 4";
        for (int i = 0; i < 60; i++) {
            check.equal("characters", lights.type(text.charAt(i)), i + 1);
        }
        check.fails("a 61st", STATE, () -> lights.type(';'));
        check.equal("60 characters are executed", lights.execute(), 11);
        check.equal("ports", lights.portCount(), 5);
        check.equal("the last character", lights.fogNights(), 4);
        Harbors.type(lights, "night;".repeat(10));
        check.fails("a 61st again", STATE, () -> lights.type('p'));
    }

    private static void oneCommandToEleven(Check check) {
        check.equal("one command", Harbors.execute(new HarborLights(), "port"), 1);
        check.equal("two commands", Harbors.execute(new HarborLights(), "port;night"), 2);
        HarborLights lights = new HarborLights();
        String eleven = "port;".repeat(5) + "fog 1;night;fog 2;night;fog 3;fog 4";
        check.equal("as many as fit into the buffer and do not fail", Harbors.execute(lights, eleven), 11);
        check.equal("ports", lights.portCount(), 5);
        check.equal("fog", lights.fogNights(), 4);
        checkMalformed(check, "", 0);
        checkMalformed(check, ";", 0);
        checkMalformed(check, ";port", 0);
        checkMalformed(check, "port;;port", 5);
        checkMalformed(check, "port;", 5);
    }

    private static void fewestAndMostDigits(Check check) {
        HarborLights lights = Harbors.withPorts(10);
        Harbors.execute(lights, "leg 0 9 1 1;leg 9 8 01 01;leg 7 8 99 20;leg 7 6 10 9");
        int[][] legs = {{0, 9, 1, 1}, {8, 9, 1, 1}, {7, 8, 99, 20}, {6, 7, 10, 9}};
        for (int[] leg : legs) {
            check.equal("length", lights.lengthOf(leg[0], leg[1]), leg[2]);
            check.equal("reach", lights.reachOf(leg[0], leg[1]), leg[3]);
        }
        int[] moneys = {0, 9, 99, 999, 9999, 7};
        String[] texts = {"0", "9", "99", "999", "9999", "0007"};
        for (int ship = 0; ship < 6; ship++) {
            Harbors.execute(lights, "ship 0 9 " + texts[ship]);
            check.equal("money " + texts[ship], lights.moneyOf(ship), moneys[ship]);
        }
        Harbors.execute(lights, "pay 0 1;pay 1 0001;pay 2 01;pay 3 001;pay 5 9999");
        for (int ship = 0; ship < 6; ship++) {
            int paid = new int[] {1, 1, 1, 1, 0, 9999}[ship];
            check.equal("money of " + ship, lights.moneyOf(ship), moneys[ship] + paid);
        }
        Harbors.execute(lights, "fog 9;leave 5;cut 9 0");
        check.equal("fog", lights.fogNights(), 9);
        check.equal("subscribers", lights.subscriberCount(), 5);
        check.equal("legs", lights.legCount(), 3);
        Harbors.execute(lights, "fog 0");
        check.equal("no fog", lights.fogNights(), 0);
    }

    private static void tooFewAndTooManyDigits(Check check) {
        checkMalformed(check, "port 0", 4);
        checkMalformed(check, "leg  1 5 5", 4);
        checkMalformed(check, "leg 00 1 5 5", 5);
        checkMalformed(check, "leg 0  5 5", 6);
        checkMalformed(check, "leg 0 11 5 5", 7);
        checkMalformed(check, "leg 0 1  5", 8);
        checkMalformed(check, "leg 0 1 005 5", 10);
        checkMalformed(check, "leg 0 1 5 ", 10);
        checkMalformed(check, "leg 0 1 5 005", 12);
        checkMalformed(check, "leg 0 1 5", 9);
        checkMalformed(check, "leg 0 1 5 5 5", 11);
        checkMalformed(check, "cut 0", 5);
        checkMalformed(check, "cut 00 1", 5);
        checkMalformed(check, "cut 0 11", 7);
        checkMalformed(check, "cut 0 1 1", 7);
        checkMalformed(check, "ship 00 1 5", 6);
        checkMalformed(check, "ship 0 11 5", 8);
        checkMalformed(check, "ship 0 1", 8);
        checkMalformed(check, "ship 0 1 ", 9);
        checkMalformed(check, "ship 0 1 00001", 13);
        checkMalformed(check, "pay 00 5", 5);
        checkMalformed(check, "pay 0", 5);
        checkMalformed(check, "pay 0 ", 6);
        checkMalformed(check, "pay 0 10000", 10);
        checkMalformed(check, "leave", 5);
        checkMalformed(check, "leave ", 6);
        checkMalformed(check, "leave 00", 7);
        checkMalformed(check, "fog", 3);
        checkMalformed(check, "fog 10", 5);
        checkMalformed(check, "night 1", 5);
    }

    private static void parametersInOrder(Check check) {
        HarborLights lights = Harbors.withPorts(4);
        Harbors.execute(lights, "port;leg 3 1 20 19;leg 1 2 3 4;ship 2 1 960;pay 0 5;night");
        check.equal("port", lights.portCount(), 5);
        check.equal("length", lights.lengthOf(1, 3), 20);
        check.equal("reach", lights.reachOf(1, 3), 19);
        check.equal("start", lights.startOf(0), 2);
        check.equal("goal", lights.goalOf(0), 1);
        check.equal("money", lights.moneyOf(0), 5);
        check.equal("night", lights.nightCount(), 1);
        Harbors.execute(lights, "cut 3 1;ship 1 2 7;leave 0;fog 3");
        check.equal("cut", lights.legCount(), 1);
        check.equal("leave", lights.moneyOf(0), 7);
        check.equal("fog", lights.fogNights(), 3);
        Harbors.execute(lights, "pay 0 9999;fog 9;leg 0 4 8 7;ship 4 0 9999");
        check.equal("pay", lights.moneyOf(0), 10006);
        check.equal("fog after a greater number", lights.fogNights(), 9);
        check.equal("ship after a leg", lights.moneyOf(1), 9999);
    }

    private static void cannotContinue(Check check) {
        String[] words = {"port", "leg", "cut", "ship", "pay", "leave", "fog", "night"};
        for (String word : words) {
            for (int i = 0; i <= word.length(); i++) {
                checkMalformed(check, word.substring(0, i) + "~", i);
                checkMalformed(check, "night;" + word.substring(0, i) + "~" + word, 6 + i);
                checkMalformed(check, word.substring(0, i) + "P", i);
            }
        }
        String[] texts = {"leg 0 1 12 12", "cut 0 1", "ship 0 1 1234", "pay 0 1234", "leave 0", "fog 0"};
        for (String text : texts) {
            for (int i = text.indexOf(' '); i < text.length(); i++) {
                char wrong = text.charAt(i) == ' ' ? '/' : ':';
                checkMalformed(check, text.substring(0, i) + wrong, i);
                checkMalformed(check, text.substring(0, i) + wrong + text, i);
            }
            checkMalformed(check, text + "0", text.length());
            checkMalformed(check, text + " ", text.length());
            checkMalformed(check, text + ";;", text.length() + 1);
        }
        checkMalformed(check, "~", 0);
        checkMalformed(check, "port port", 4);
    }

    private static void endsTooEarly(Check check) {
        checkMalformed(check, "", 0);
        String[] texts = {"port", "leg 0 1 5 5", "cut 0 1", "ship 0 1 5", "pay 0 5", "leave 0", "fog 5", "night"};
        for (String text : texts) {
            for (int length = 0; length < text.length(); length++) {
                checkMalformed(check, text.substring(0, length), length);
                checkMalformed(check, "port;" + text.substring(0, length), 5 + length);
            }
            checkMalformed(check, text + ";", text.length() + 1);
        }
    }

    private static void fullAndMalformed(Check check) {
        checkMalformed(check, "night;".repeat(10), 60);
        checkMalformed(check, "night;".repeat(9) + "leave ", 60);
        checkMalformed(check, "night;".repeat(9) + "port;n", 60);
        checkMalformed(check, "night;".repeat(9) + "night~", 59);
        checkMalformed(check, "~" + "night;".repeat(9) + "night", 0);
        checkMalformed(check, "~".repeat(60), 0);
    }

    /** None of the commands is executed, and the buffer is empty afterwards. */
    private static void checkMalformed(Check check, String text, int due) {
        HarborLights lights = Harbors.withMoneys(5);
        String before = Harbors.picture(lights);
        Harbors.type(lights, text);
        check.fails("\"" + text + "\"", ARGUMENT, () -> lights.execute());
        check.equal("error position of \"" + text + "\"", lights.errorPosition(), due);
        check.equal("all after \"" + text + "\"", Harbors.picture(lights), before);
        check.equal("characters after \"" + text + "\"", lights.type('p'), 1);
    }

    private static void characters(Check check) {
        Refusal.numbers(check, ARGUMENT, Harbors::lived, (lights, character) -> lights.type((char) character), 0, 1, 31,
                127, 128, 160, 255, 256, 32 + 256, 65535);
        for (int character = 32; character <= 126; character++) {
            check.equal("character " + character, new HarborLights().type((char) character), 1);
        }
        Refusal.check(check, "a wrong character for a full buffer", ARGUMENT, TextBoundaries::withFullBuffer,
                lights -> lights.type((char) 127));
    }

    private static HarborLights withFullBuffer() {
        HarborLights lights = new HarborLights();
        Harbors.type(lights, "night;".repeat(8) + "port;port;po");
        return lights;
    }

    private static void fullBuffer(Check check) {
        HarborLights lights = new HarborLights();
        for (int length = 1; length <= 60; length++) {
            check.equal("characters", lights.type('x'), length);
        }
        check.fails("a 61st", STATE, () -> lights.type('x'));
        check.fails("a 61st again", STATE, () -> lights.type(' '));
        Refusal.check(check, "a 61st", STATE, TextBoundaries::withFullBuffer, full -> full.type('r'));
        Harbors.refuse(lights, "");
        check.equal("the first again", lights.type('x'), 1);
    }

    private static void emptyAfterwards(Check check) {
        HarborLights lights = new HarborLights();
        Harbors.execute(lights, "port");
        check.fails("nothing is left of a good text", ARGUMENT, () -> lights.execute());
        check.equal("error position of nothing", lights.errorPosition(), 0);
        check.equal("ports", lights.portCount(), 1);
        Harbors.refuse(lights, "porx");
        check.equal("characters after a malformed text", lights.type('p'), 1);
        Harbors.refuse(lights, "ort;leave 0");
        check.equal("the text failed", lights.failedCommand(), 1);
        check.equal("characters after a failed text", lights.type('p'), 1);
        check.equal("a good text again", Harbors.execute(lights, "ort"), 1);
        check.equal("characters after a good text", lights.type('p'), 1);
    }

    private static void allOrNone(Check check) {
        String[] texts = {"leave 3", "port;leave 3", "port;leg 4 5 1 1;cut 0 2;pay 0 9;leave 1;fog 9;leave 3",
            "ship 0 1 9;night;leave 0;leave 9", "fog 0;night;night;cut 0 2;cut 0 2;port",
                    "night;night;night;leave 0;leave 0;leave 0;leave 0"};
        for (String text : texts) {
            HarborLights lights = Harbors.lived();
            Harbors.refuse(lights, "~");
            String before = Harbors.picture(lights);
            Harbors.type(lights, text);
            check.fails(text, STATE, () -> lights.execute());
            check.equal("nothing is left of " + text, Harbors.picture(lights), before);
        }
        HarborLights lights = Harbors.lived();
        Harbors.refuse(lights, "~");
        check.equal("all of them", Harbors.execute(lights, "cut 1 0;leg 0 1 9 9;leave 2;leave 1;leave 0"), 5);
        check.equal("in order", lights.lengthOf(0, 1), 9);
        check.equal("subscribers", lights.subscriberCount(), 0);
    }

    private static void failingOnAChart(Check check) {
        String[] commands = {"leg 5 0 1 1", "leg 0 5 1 1", "leg 4 4 1 1", "leg 0 4 0 1", "leg 0 4 00 1", "leg 0 4 1 0",
            "leg 0 4 1 21", "leg 0 4 1 99", "leg 0 1 1 1", "leg 1 0 1 1", "cut 5 0", "cut 0 5", "cut 4 4", "cut 0 3",
            "ship 5 0 5", "ship 0 5 5", "ship 1 1 5", "ship 0 4 5", "pay 3 1", "pay 9 1", "pay 0 0", "pay 0 0000",
            "leave 3", "leave 9"};
        for (String command : commands) {
            checkFailing(check, Harbors::withShips, command);
        }
        checkFailing(check, HarborLights::new, "leg 0 0 1 1");
        checkFailing(check, HarborLights::new, "cut 0 0");
        checkFailing(check, HarborLights::new, "ship 0 0 0");
        checkFailing(check, HarborLights::new, "pay 0 1");
        checkFailing(check, HarborLights::new, "leave 0");
    }

    private static void failingOnAFullChart(Check check) {
        for (String command : new String[] {"port", "leg 8 9 1 1", "ship 0 9 5", "pay 6 1", "leave 6"}) {
            checkFailing(check, Harbors::full, command);
        }
    }

    private static void checkFailing(Check check, Refusal.Maker maker, String command) {
        HarborLights first = maker.make();
        Harbors.type(first, command);
        check.fails(command, STATE, () -> first.execute());
        check.equal("index of " + command, first.failedCommand(), 0);
        HarborLights last = maker.make();
        Harbors.type(last, "night;fog 3;" + command + ";night");
        check.fails("fog and " + command, STATE, () -> last.execute());
        check.equal("index behind others of " + command, last.failedCommand(), 2);
        check.equal("all after " + command, Harbors.picture(last), Harbors.picture(maker.make()));
    }

    private static void justNotFailing(Check check) {
        HarborLights lights = Harbors.withShips();
        check.equal("the last port and subscriber", Harbors.execute(lights, "leg 4 3 99 20;ship 4 0 9999;pay 3 1"), 3);
        check.equal("least numbers", Harbors.execute(lights, "leg 4 0 1 1;ship 0 4 0;pay 4 1;leave 0"), 4);
        HarborLights nine = Harbors.withPorts(9);
        check.equal("a 10th port", Harbors.execute(nine, "port;leg 9 0 1 1"), 2);
        HarborLights full = Harbors.full();
        check.equal("a 20th leg and a 6th subscriber", Harbors.execute(full, "cut 0 1;leg 0 1 1 1;leave 5;ship 0 1 5"),
                4);
        check.equal("legs", full.legCount(), 20);
        check.equal("subscribers", full.subscriberCount(), 6);
        check.equal("a night without ports", Harbors.execute(new HarborLights(), "night;fog 0;fog 9"), 3);
    }

    private static void malformed(Check check) {
        HarborLights lights = Harbors.lived();
        check.equal("before", lights.errorPosition(), 2);
        check.fails("the text in the buffer", ARGUMENT, () -> lights.execute());
        check.equal("stored", lights.errorPosition(), 7);
        check.equal("the failed command stays", lights.failedCommand(), 1);
        check.fails("the empty text", ARGUMENT, () -> lights.execute());
        check.equal("stored 0", lights.errorPosition(), 0);
        Harbors.type(lights, "leave 9;leave 9;leav");
        check.fails("malformed behind commands that would fail", ARGUMENT, () -> lights.execute());
        check.equal("stored 20", lights.errorPosition(), 20);
        check.equal("no command failed", lights.failedCommand(), 1);
        lights.restore();
        Harbors.refuse(lights, "port;nigh");
        check.fails("nothing to undo", STATE, () -> lights.undo());
    }

    private static void failed(Check check) {
        HarborLights lights = Harbors.lived();
        Harbors.refuse(lights, "~");
        Harbors.type(lights, "leave 9");
        check.fails("the first command", STATE, () -> lights.execute());
        check.equal("stored 0", lights.failedCommand(), 0);
        Harbors.type(lights, "port;port;port;port;port;port");
        check.fails("an 11th port", STATE, () -> lights.execute());
        check.equal("stored 5", lights.failedCommand(), 5);
        check.equal("the error position stays", lights.errorPosition(), 7);
        check.equal("no port is left", lights.portCount(), 5);
        lights.restore();
        Harbors.refuse(lights, "port;leave 9");
        check.fails("nothing to undo", STATE, () -> lights.undo());
    }

    private static void lastMalformed(Check check) {
        HarborLights lights = new HarborLights();
        int[] due = {3, 0, 4, 60, 0};
        String[] texts = {"por", "~", "port ", "night;".repeat(10), ""};
        for (int i = 0; i < due.length; i++) {
            Harbors.refuse(lights, texts[i]);
            check.equal("error position", lights.errorPosition(), due[i]);
        }
        Harbors.refuse(lights, "nigh");
        Harbors.execute(lights, "port;night");
        Harbors.refuse(lights, "port;leave 0");
        check.equal("a good and a failed text leave it", lights.errorPosition(), 4);
    }

    private static void noneMalformed(Check check) {
        Refusal.check(check, "a new object", ELEMENT, HarborLights::new, HarborLights::errorPosition);
        Refusal.check(check, "a text that was not executed", ELEMENT, TextBoundaries::withFullBuffer,
                HarborLights::errorPosition);
        Refusal.check(check, "after a good and a failed text", ELEMENT, () -> {
            HarborLights lights = new HarborLights();
            Harbors.execute(lights, "port");
            Harbors.refuse(lights, "leave 0");
            return lights;
        }, HarborLights::errorPosition);
    }

    private static void lastFailed(Check check) {
        HarborLights lights = new HarborLights();
        int[] due = {2, 0, 10, 0};
        String[] texts = {"port;night;leave 0;pay 0 0", "leave 0", "port;".repeat(10) + "port", "pay 0 1;leave 0"};
        for (int i = 0; i < due.length; i++) {
            Harbors.refuse(lights, texts[i]);
            check.equal("failed command", lights.failedCommand(), due[i]);
        }
        Harbors.refuse(lights, "port;leave 0");
        Harbors.execute(lights, "port;night");
        Harbors.refuse(lights, "port;~");
        check.equal("a good and a malformed text leave it", lights.failedCommand(), 1);
    }

    private static void leastAndGreatestIndex(Check check) {
        HarborLights lights = new HarborLights();
        Harbors.refuse(lights, "cut 0 0");
        check.equal("the first", lights.failedCommand(), 0);
        Harbors.refuse(lights, "port;".repeat(10) + "fog 1;port");
        check.equal("the last of twelve", lights.failedCommand(), 11);
        Harbors.refuse(lights, "leave 0;leave 0");
        check.equal("the first of two", lights.failedCommand(), 0);
        check.equal("nothing is left", lights.portCount() + lights.fogNights(), 0);
    }

    private static void noneFailed(Check check) {
        Refusal.check(check, "a new object", ELEMENT, HarborLights::new, HarborLights::failedCommand);
        Refusal.check(check, "a text that was not executed", ELEMENT, () -> {
            HarborLights lights = new HarborLights();
            Harbors.type(lights, "leave 0");
            return lights;
        }, HarborLights::failedCommand);
        Refusal.check(check, "after a good and a malformed text", ELEMENT, () -> {
            HarborLights lights = new HarborLights();
            Harbors.execute(lights, "port");
            Harbors.refuse(lights, "leave 0;");
            return lights;
        }, HarborLights::failedCommand);
    }
}
