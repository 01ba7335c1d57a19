/** Promises 53 to 55: undo and snapshots. */
public final class UndoTest {
    private static final Class<IllegalStateException> STATE = IllegalStateException.class;
    private static final Class<IllegalArgumentException> ARGUMENT = IllegalArgumentException.class;
    private static final Check CHECK = new Check("UndoTest");

    public static void main(String[] args) {
        promise53EachModification();
        promise53LastEight();
        promise53FailuresAndQuestions();
        promise53FailingTextKeepsAllEight();
        promise53TextIsOutside();
        promise54Save();
        promise55Restore();
        CHECK.end();
    }

    private static void promise53EachModification() {
        HarborLights lights = Harbors.withShips();
        Harbors.execute(lights, "fog 1;night");
        String[] pictures = new String[9];
        for (int i = 0; i <= 8; i++) {
            pictures[i] = Harbors.picture(lights);
            modify(lights, i);
        }
        for (int i = 8; i >= 1; i--) {
            CHECK.equal("undo", lights.undo(), i - 1);
            CHECK.equal("state before modification " + i, Harbors.picture(lights), pictures[i]);
        }
        CHECK.fails("no more than 8", STATE, () -> lights.undo());
        CHECK.equal("nothing changes", Harbors.picture(lights), pictures[1]);
    }

    private static void modify(HarborLights lights, int which) {
        switch (which) {
            case 0 -> lights.addPort();
            case 1 -> lights.addLeg(4, 5, 8, 8);
            case 2 -> lights.removeLeg(0, 2);
            case 3 -> lights.subscribe(4, 5, 500);
            case 4 -> lights.leave(1);
            case 5 -> lights.deposit(0, 5);
            case 6 -> lights.setFog(1);
            case 7 -> lights.night();
            default -> Harbors.execute(lights, "port;leave 0;night");
        }
    }

    private static void promise53LastEight() {
        HarborLights lights = new HarborLights();
        CHECK.fails("a new object", STATE, () -> lights.undo());
        for (int i = 0; i < 10; i++) {
            lights.addPort();
        }
        CHECK.equal("undo", lights.undo(), 7);
        CHECK.equal("undo", lights.undo(), 6);
        CHECK.equal("ports", lights.portCount(), 8);
        CHECK.equal("a new modification", lights.addPort(), 8);
        for (int left = 6; left >= 0; left--) {
            CHECK.equal("undo", lights.undo(), left);
        }
        CHECK.equal("ports", lights.portCount(), 2);
        CHECK.fails("nothing more", STATE, () -> lights.undo());
    }

    private static void promise53FailuresAndQuestions() {
        HarborLights lights = Harbors.withPorts(2);
        CHECK.fails("not a modification", ARGUMENT, () -> lights.addLeg(0, 0, 1, 1));
        CHECK.fails("not a modification", ARGUMENT, () -> lights.setFog(10));
        CHECK.fails("not a modification", ARGUMENT, () -> lights.execute());
        Harbors.type(lights, "leave 0");
        CHECK.fails("not a modification", STATE, () -> lights.execute());
        lights.isConsistent();
        lights.save();
        lights.setFog(0);
        CHECK.equal("the same fog again is one", lights.undo(), 2);
        CHECK.equal("undo", lights.undo(), 1);
        CHECK.equal("ports", lights.portCount(), 1);
    }

    private static void promise53FailingTextKeepsAllEight() {
        HarborLights lights = Harbors.withPorts(9);
        Harbors.type(lights, "port;port");
        CHECK.fails("an 11th port", STATE, () -> lights.execute());
        for (int left = 7; left >= 0; left--) {
            CHECK.equal("undo", lights.undo(), left);
        }
        CHECK.equal("ports", lights.portCount(), 1);
    }

    private static void promise53TextIsOutside() {
        HarborLights lights = Harbors.withMoneys(5);
        Harbors.type(lights, "po");
        lights.undo();
        CHECK.equal("the buffer stays", lights.type('r'), 3);
        lights.save();
        lights.type('t');
        lights.restore();
        CHECK.equal("the buffer is not restored", lights.execute(), 1);
        CHECK.equal("ports", lights.portCount(), 3);
    }

    private static void promise54Save() {
        HarborLights lights = Harbors.withShips();
        CHECK.equal("save", lights.save(), 3);
        lights.leave(0);
        CHECK.equal("save again", lights.save(), 2);
        lights.leave(0);
        lights.restore();
        CHECK.equal("the later snapshot", lights.subscriberCount(), 2);
        CHECK.equal("a new object", new HarborLights().save(), 0);
        HarborLights undone = Harbors.withPorts(2);
        undone.save();
        CHECK.equal("save leaves what can be undone", undone.undo(), 1);
        undone.restore();
        CHECK.equal("undo leaves the snapshot", undone.portCount(), 2);
    }

    private static void promise55Restore() {
        HarborLights lights = Harbors.withShips();
        CHECK.fails("no snapshot", STATE, () -> lights.restore());
        CHECK.equal("a refused restore leaves what can be undone", lights.undo(), 7);
        lights.subscribe(3, 1, 9999);
        lights.setFog(2);
        lights.night();
        String saved = Harbors.picture(lights);
        lights.save();
        Harbors.execute(lights, "leave 0;port;leg 4 5 1 1;cut 0 2;fog 0;night;night");
        CHECK.equal("restore", lights.restore(), 3);
        CHECK.equal("the saved state", Harbors.picture(lights), saved);
        CHECK.fails("nothing can be undone", STATE, () -> lights.undo());
        lights.night();
        lights.deposit(0, 9);
        CHECK.equal("later modifications can be", lights.undo(), 1);
        CHECK.equal("undo", lights.undo(), 0);
        CHECK.fails("not beyond the restored state", STATE, () -> lights.undo());
        CHECK.equal("the restored state", Harbors.picture(lights), saved);
        lights.leave(2);
        CHECK.equal("the snapshot is kept", lights.restore(), 3);
        CHECK.equal("the saved state again", Harbors.picture(lights), saved);
    }
}
