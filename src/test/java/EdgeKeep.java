import java.util.function.Supplier;

/** The edges of promises 40 to 44: output, undo and saved states. AIR is 100 below 400 metres. */
final class EdgeKeep {
    private static final String WRITE = "for each chute a letter (P packed, O open, T failed because its lines tore, J failed because it was jammed, C cut away), and of a packed or open one how many of its lines are there; an R ahead of the letter of the reserve; with a space between two chutes.";
    private static final String UNDO = "Undoes the latest act that can be undone: everything but the accounts, the text buffer, the results of errorCode() and errorPosition(), the output and the saved states is as it was ahead of it.";

    private static LayeredChute busy() {
        return StateTest.busy();
    }

    // ---- promises 40 and 41

    @Sentence(WRITE)
    void p40NoneAndOne(Check check) {
        check.equal("no chute", "", Check.written(new LayeredChute()));
        check.equal("a layer", "P1", Check.written(Check.made("capsule 9 9 9;layer 1 1 1 below 1 under 1;")));
        check.equal("a reserve", "RP12", Check.written(Check.made("capsule 9 9 9;reserve 1 12 1 below 1 after 1;")));
    }

    @Sentence(WRITE)
    void p40TheLongest(Check check) {
        LayeredChute object = Check.made("capsule 9 9 9;" + "layer 1 12 1 below 1 under 1;".repeat(8)
                + "reserve 1 10 1 below 1 after 1;");
        check.equal("nine chutes", "P12 P12 P12 P12 P12 P12 P12 P12 RP10", Check.written(object));
        check.equal("its bytes", 36, object.write());
    }

    @Sentence(WRITE)
    void p40EachLetter(Check check) {
        check.equal("open, jammed, of which lines tore, cut away, packed", "O4 J O9 C P1 RO5", Check.written(busy()));
        LayeredChute object = Check.made("capsule 390 20 10;layer 99 12 1 below 390 under 400;"
                + "layer 1 1 1 below 390 under 400 jammed;reserve 99 12 1 below 390 after 1;");
        object.open(0);
        object.open(1);
        object.openReserve();
        check.equal("ahead of the second", "O12 J RO12", Check.written(object));
        object.tick(1);
        check.equal("all lines tore", "T J RT", Check.written(object));
        LayeredChute cut = busy();
        cut.cut(5);
        check.equal("the reserve cut away", "O4 J O9 C P1 RC", Check.written(cut));
    }

    @Sentence("Writes the chutes as the output, which is replaced")
    void p40IsReplaced(Check check) {
        LayeredChute object = busy();
        check.equal("long", 16, object.write());
        Check.load(object, "capsule 9 9 9;layer 1 1 1 below 1 under 1;");
        check.equal("shorter", "P1", Check.written(object));
        check.equal("nothing of the long one", "IndexOutOfBoundsException", Check.outcome(o -> o.output(2), object));
        Check.load(object, "capsule 9 9 9;");
        check.equal("empty", 0, object.write());
        check.equal("nothing at all", "IndexOutOfBoundsException", Check.outcome(o -> o.output(0), object));
    }

    @Sentence("Throws `IndexOutOfBoundsException` if there is no such byte")
    void p41NoSuchByte(Check check) {
        for (int index : new int[] {-1, 16, Integer.MIN_VALUE, Integer.MAX_VALUE}) {
            check.thrown("byte " + index, IndexOutOfBoundsException.class, EdgeKeep::written, o -> o.output(index));
        }
        check.thrown("nothing is written yet", IndexOutOfBoundsException.class, EdgeKeep::busy, o -> o.output(0));
    }

    @Sentence("0 for the first byte")
    void p41FirstAndLast(Check check) {
        LayeredChute object = written();
        check.equal("the first", (int) 'O', object.output(0));
        check.equal("a space", 32, object.output(2));
        check.equal("the last", (int) '5', object.output(15));
        object.cut(0);
        check.equal("as it was written", (int) '4', object.output(1));
    }

    private static LayeredChute written() {
        LayeredChute object = busy();
        object.write();
        return object;
    }

    // ---- promise 42

    @Sentence("Throws `IllegalStateException` if there is no act to undo")
    void p42NoAct(Check check) {
        check.thrown("a new object", IllegalStateException.class, LayeredChute::new, o -> o.undo());
        check.thrown("a setup", IllegalStateException.class, () -> {
            LayeredChute object = written();
            Check.load(object, "capsule 9 9 9;");
            return object;
        }, o -> o.undo());
        check.thrown("only refused acts", IllegalStateException.class, () -> {
            LayeredChute object = new LayeredChute();
            object.steer(1);
            object.openReserve();
            return object;
        }, o -> o.undo());
        check.thrown("all are undone", IllegalStateException.class, () -> {
            LayeredChute object = ticked(2);
            object.undo();
            object.undo();
            return object;
        }, o -> o.undo());
        check.thrown("a state brought back", IllegalStateException.class, () -> {
            LayeredChute object = ticked(2);
            object.save(0);
            object.tick(1);
            object.restore(0);
            return object;
        }, o -> o.undo());
    }

    private static LayeredChute ticked(int times) {
        LayeredChute object = Check.made("capsule 30000 0 10;");
        for (int i = 0; i < times; i++) {
            object.tick(1);
        }
        return object;
    }

    @Sentence("The latest 8 acts that were done can be undone.")
    void p42EightOfNine(Check check) {
        LayeredChute object = ticked(7);
        check.equal("7 of 7", 7, object.size(9));
        object.tick(1);
        check.equal("8 of 8", 8, object.size(9));
        object.tick(1);
        check.equal("8 of 9", 8, object.size(9));
        for (int left = 7; left >= 0; left--) {
            check.equal("left", left, object.undo());
            check.equal("TIME", left + 1, object.capsule(6));
        }
        check.equal("the first of them stays", "IllegalStateException 1",
                Check.outcome(o -> o.undo(), object) + " " + object.capsule(6));
    }

    @Sentence("The latest 8 acts that were done can be undone.")
    void p42RoundAndRound(Check check) {
        LayeredChute object = ticked(20);
        for (int i = 0; i < 5; i++) {
            object.undo();
        }
        check.equal("5 of 20 are undone", "3 15", object.size(9) + " " + object.capsule(6));
        for (int i = 0; i < 30; i++) {
            object.tick(1);
        }
        for (int left = 7; left >= 0; left--) {
            check.equal("left", left + " " + (37 + left), object.undo() + " " + object.capsule(6));
        }
    }

    @Sentence("Returns the number of acts that can still be undone.")
    void p42HowManyAreLeft(Check check) {
        LayeredChute object = ticked(3);
        check.equal("2", "2 2", object.undo() + " " + object.size(9));
        object.setTarget(1, 1);
        check.equal("2 again", 2, object.undo());
        check.equal("1", 1, object.undo());
        check.equal("0", "0 0", object.undo() + " " + object.size(9));
    }

    @Sentence(UNDO)
    void p42EachActIsUndone(Check check) {
        undone(check, "tick", EdgeKeep::busy, o -> o.tick(1));
        undone(check, "tick until it lands", EdgeKeep::busy, o -> o.tick(200));
        undone(check, "fallTo", EdgeKeep::busy, o -> o.fallTo(0));
        undone(check, "open", EdgeKeep::packed, o -> o.open(0));
        undone(check, "open, jammed", EdgeKeep::packed, o -> o.open(1));
        undone(check, "openReserve", EdgeKeep::reserved, o -> o.openReserve());
        undone(check, "cut", EdgeKeep::busy, o -> o.cut(2));
        undone(check, "steer", EdgeKeep::busy, o -> o.steer(-9));
        undone(check, "setTarget, a new one", EdgeKeep::busy, o -> o.setTarget(1, 1));
        undone(check, "setTarget, another speed", EdgeKeep::busy, o -> o.setTarget(390, 1));
        undone(check, "jam", EdgeKeep::busy, o -> o.jam(4, true));
    }

    private static LayeredChute packed() {
        return Check.made(StateTest.BUSY);
    }

    private static LayeredChute reserved() {
        LayeredChute object = packed();
        for (int layer = 0; layer < 4; layer++) {
            object.open(layer);
        }
        return object;
    }

    private static void undone(Check check, String what, Supplier<LayeredChute> maker, Check.Call act) {
        LayeredChute object = maker.get();
        Check.outcome(act, object);
        String different = Check.brief(object) + object.targetAt(390) + object.chute(4, 7);
        LayeredChute twin = maker.get();
        check.equal(what + " makes a difference", false,
                different.equals(Check.brief(twin) + twin.targetAt(390) + twin.chute(4, 7)));
        object.undo();
        check.equal(what + " is undone", Check.allButAccounts(twin), Check.allButAccounts(object));
        check.equal(what + " counts still", maker.get().account(0) + 1, object.account(0));
    }

    @Sentence("An act that was done can be undone also if nothing is different by it.")
    void p42NothingIsDifferent(Check check) {
        LayeredChute object = busy();
        object.steer(0);
        object.setTarget(390, 25);
        object.jam(4, false);
        check.equal("three acts", 8, object.size(9));
        check.equal("jam", 7, object.undo());
        check.equal("setTarget", 6, object.undo());
        check.equal("steer", 5, object.undo());
        check.equal("as it was", Check.fall(busy()), Check.fall(object));
        object.undo();
        check.equal("the act ahead of them is next", "0 13140", object.capsule(6) + " " + Check.states(object).substring(0, 5));
    }

    @Sentence(UNDO)
    void p42TheAccountsStay(Check check) {
        LayeredChute object = busy();
        object.cut(1);
        object.undo();
        check.equal("7 acts and a refusal", "7 0 0 0 0 0 0 0 1 0", Check.accounts(object));
    }

    @Sentence(UNDO)
    void p42TheTextStays(Check check) {
        LayeredChute object = busy();
        object.append(-1, -1, 0, 0, 0);
        object.undo();
        check.equal("8 bytes", 8, object.append(0, 0, 0, 0, 0));
    }

    @Sentence(UNDO)
    void p42TheErrorStays(Check check) {
        LayeredChute object = busy();
        Check.load(object, "capsule 0");
        object.undo();
        check.equal("code and position", "2 8", object.errorCode() + " " + object.errorPosition());
    }

    @Sentence(UNDO)
    void p42TheOutputStays(Check check) {
        LayeredChute object = written();
        object.undo();
        check.equal("as it was written", "O4 J O9 C P1 RO5", Check.outputOf(object, 16));
    }

    @Sentence(UNDO)
    void p42TheSavedStatesStay(Check check) {
        LayeredChute object = busy();
        object.save(0);
        object.undo();
        check.equal("TIME is 0 then", 0, object.capsule(6));
        check.equal("TIME is 1 in slot 0", 1, object.restore(0));
        check.equal("slot 1 is empty", "IllegalStateException", Check.outcome(o -> o.restore(1), object));
    }

    @Sentence("The latest 30 events are kept, in their order.")
    void p42EventsThatWereGoneComeBack(Check check) {
        LayeredChute object = thirtyEvents(399, 18);
        String due = Check.events(object);
        check.equal("30 of 30", "30 0 0 0 20", object.size(8) + " " + Check.event(object, 0));
        object.cut(6);
        check.equal("30 of 31", "30 0 0 1 20", object.size(8) + " " + Check.event(object, 0));
        object.undo();
        check.equal("the earliest one is back", due, Check.events(object));
    }

    /** Eight layers open, 3 and then 2 of the 12 lines of each tear, and six layers are cut away. */
    private static LayeredChute thirtyEvents(int height, int area) {
        LayeredChute object = new LayeredChute();
        fillWithEvents(object, height, area);
        return object;
    }

    private static void fillWithEvents(LayeredChute object, int height, int area) {
        Check.load(object, "capsule " + height + " 20 99;"
                + ("layer " + area + " 12 1 below 399 under 400;").repeat(8));
        for (int layer = 0; layer < 8; layer++) {
            object.open(layer);
        }
        object.tick(1);
        object.tick(1);
        for (int chute = 0; chute < 6; chute++) {
            object.cut(chute);
        }
    }

    // ---- promises 43 and 44

    @Sentence("Throws `IndexOutOfBoundsException` if slot is neither")
    void p43NoSuchSlot(Check check) {
        for (int slot : new int[] {-1, 2, Integer.MIN_VALUE, Integer.MAX_VALUE}) {
            check.thrown("slot " + slot, IndexOutOfBoundsException.class, EdgeKeep::busy, o -> o.save(slot));
        }
    }

    @Sentence("Saves everything that undo() brings back, but not which acts can be undone.")
    void p43NotWhichActsCanBeUndone(Check check) {
        LayeredChute object = busy();
        object.save(0);
        check.equal("they can be undone still", 7, object.size(9));
        object.restore(0);
        check.equal("not behind restore", 0, object.size(9));
        LayeredChute bare = busy();
        check.equal("everything else", Check.world(bare), Check.world(object));
    }

    @Sentence("0 or 1; a state that is already saved there is replaced")
    void p43IsReplaced(Check check) {
        LayeredChute object = new LayeredChute();
        check.equal("TIME is 0 in both", "0 0", object.save(0) + " " + object.save(1));
        object.tick(3);
        check.equal("TIME is 3 in one", 3, object.save(1));
        check.equal("it is replaced, the other one is not", "3 0", object.restore(1) + " " + object.restore(0));
    }

    @Sentence("Saves everything that undo() brings back, but not which acts can be undone.")
    void p43LaterActsDoNotMatter(Check check) {
        LayeredChute object = busy();
        object.save(1);
        object.steer(9);
        object.cut(2);
        object.setTarget(5, 5);
        object.jam(4, true);
        object.tick(5);
        object.restore(1);
        check.equal("as it was", Check.world(busy()), Check.world(object));
    }

    @Sentence("Throws `IndexOutOfBoundsException` if slot is neither")
    void p44NoSuchSlot(Check check) {
        for (int slot : new int[] {-1, 2, Integer.MIN_VALUE, Integer.MAX_VALUE}) {
            check.thrown("slot " + slot, IndexOutOfBoundsException.class, EdgeKeep::busy, o -> o.restore(slot));
        }
    }

    @Sentence("Throws `IllegalStateException` if nothing is saved there")
    void p44NothingIsSavedThere(Check check) {
        for (int slot = 0; slot <= 1; slot++) {
            int empty = slot;
            check.thrown("slot " + slot, IllegalStateException.class, EdgeKeep::busy, o -> o.restore(empty));
            check.thrown("slot " + slot + ", the other one is saved", IllegalStateException.class, () -> {
                LayeredChute object = busy();
                object.save(1 - empty);
                return object;
            }, o -> o.restore(empty));
        }
    }

    @Sentence("Brings back a saved state, which stays saved; no act can be undone then.")
    void p44ItStaysSaved(Check check) {
        LayeredChute object = busy();
        object.save(0);
        object.tick(2);
        check.equal("once", "1 1", object.restore(0) + " " + object.capsule(6));
        object.cut(0);
        object.tick(2);
        check.equal("and again", 1, object.restore(0));
        check.equal("as it was", Check.world(busy()), Check.world(object));
    }

    @Sentence("Brings back a saved state, which stays saved; no act can be undone then.")
    void p44NoActCanBeUndone(Check check) {
        LayeredChute object = busy();
        object.save(0);
        object.restore(0);
        check.equal("none", "0 IllegalStateException", object.size(9) + " " + Check.outcome(o -> o.undo(), object));
        object.tick(1);
        check.equal("the next one can", "1 0", object.size(9) + " " + object.undo());
        check.equal("back to the saved state", 1, object.capsule(6));
    }

    @Sentence("Brings back a saved state, which stays saved; no act can be undone then.")
    void p44BehindAnotherSetup(Check check) {
        LayeredChute object = busy();
        object.save(1);
        Check.load(object, "capsule 9 9 9;");
        check.equal("with its chutes and all", 1, object.restore(1));
        check.equal("as it was", Check.world(busy()), Check.world(object));
    }

    @Sentence("Brings back a saved state, which stays saved; no act can be undone then.")
    void p44AllThirtyEvents(Check check) {
        LayeredChute object = thirtyEvents(399, 18);
        object.save(0);
        fillWithEvents(object, 398, 17);
        object.cut(7);
        String later = Check.events(object);
        object.save(1);
        object.restore(0);
        check.equal("the earlier ones", Check.events(thirtyEvents(399, 18)), Check.events(object));
        object.restore(1);
        check.equal("the later ones", later, Check.events(object));
        check.equal("they are other ones", false, later.equals(Check.events(thirtyEvents(399, 18))));
    }

    @Sentence("Returns TIME then.")
    void p44TimeThen(Check check) {
        LayeredChute object = new LayeredChute();
        object.save(1);
        object.tick(200);
        check.equal("0", "0 0", object.restore(1) + " " + object.capsule(6));
    }
}
