import java.util.function.Supplier;

/** Promises 40 to 44: output, undo and saved states. */
public class KeepTest {
    private static final String SETUP = "capsule 390 20 10;layer 18 12 1 below 390 under 400;"
            + "layer 9 2 8 below 390 under 400 jammed;layer 7 10 999 below 390 under 400;"
            + "reserve 3 5 50 below 390 after 1;target 200 10;wind 0 -3;spot 0 20 40;cool 7;";

    private final Check check = new Check("KeepTest");

    public static void main(String[] arguments) {
        KeepTest test = new KeepTest();
        test.write();
        test.output();
        test.undo();
        test.undoEachAct();
        test.eventsComeBack();
        test.undoOfWhatIsNoAct();
        test.undoKeepsTheRest();
        test.save();
        test.saveKeepsEverything();
        test.restoreKeepsTheRest();
        test.wrongSlots();
        test.check.end();
    }

    private static LayeredChute made() {
        return Check.made(SETUP);
    }

    private void write() {
        check.equal("P40 without chutes", "", Check.written(new LayeredChute()));
        LayeredChute object = made();
        check.equal("P40 packed", "P12 P2 P10 RP5", Check.written(object));
        check.equal("P40 the number of bytes", 14, object.write());
        object.open(0);
        object.open(1);
        object.openReserve();
        check.equal("P40 a layer may open", "O12 J P10 RP5", Check.written(object));
        object.open(2);
        object.openReserve();
        object.tick(1);
        check.equal("P40 open ones, of which lines tore", "O9 J O10 RO5", Check.written(object));
        object.cut(2);
        check.equal("P40 cut away", "O9 J C RO5", Check.written(object));
        object.cut(3);
        check.equal("P40 the reserve cut away", "O9 J C RC", Check.written(object));
        object.fallTo(0);
        check.equal("P40 landed", Check.states(object).equals("1344") ? "O J C RC" : "T J C RC",
                Check.written(object).replaceAll("[0-9]", ""));
        LayeredChute torn = Check.made("capsule 390 20 10;layer 9 1 9 below 390 under 400 jammed;"
                + "reserve 99 12 1 below 390 after 1;");
        torn.open(0);
        torn.openReserve();
        torn.tick(1);
        check.equal("P40 the reserve torn", "J RT", Check.written(torn));
        String layer = "layer 1 12 9 below 390 under 400;";
        check.equal("P40 the longest one", "P12 P12 P12 P12 P12 P12 P12 P12 RP12",
                Check.written(Check.made("capsule 390 20 10;" + layer.repeat(8) + "reserve 1 12 9 below 390 after 1;")));
        check.equal("P40 the reserve alone", "RP12",
                Check.written(Check.made("capsule 390 20 10;reserve 1 12 9 below 390 after 1;")));
        check.equal("P40 a layer alone", "P11",
                Check.written(Check.made("capsule 390 20 10;layer 1 11 9 below 390 under 1;")));
    }

    private void output() {
        LayeredChute object = made();
        check.equal("P41 nothing is written yet", "IndexOutOfBoundsException", Check.outcome(o -> o.output(0), object));
        check.equal("P41 bytes", 14, object.write());
        check.equal("P41 the first byte", (int) 'P', object.output(0));
        check.equal("P41 a space", 32, object.output(3));
        check.equal("P41 the last byte", (int) '5', object.output(13));
        for (int index : new int[] {-1, 14, Integer.MIN_VALUE, Integer.MAX_VALUE}) {
            check.equal("P41 byte " + index, "IndexOutOfBoundsException", Check.outcome(o -> o.output(index), object));
            check.thrown("P41 byte " + index + " changes nothing", IndexOutOfBoundsException.class, StateTest::busy,
                    o -> o.output(index));
        }
        object.open(1);
        check.equal("P41 the output stays as it was written", (int) '2', object.output(5));
        check.equal("P40 it is replaced", 13, object.write());
        check.equal("P41 the new one", (int) 'J', object.output(4));
        check.equal("P41 it is shorter", "IndexOutOfBoundsException", Check.outcome(o -> o.output(13), object));
        Check.load(object, "capsule 9 9 9;");
        check.equal("P41 it stays behind a load", (int) 'J', object.output(4));
        check.equal("P40 nothing to write", 0, object.write());
        check.equal("P41 nothing", "IndexOutOfBoundsException", Check.outcome(o -> o.output(0), object));
    }

    private void undo() {
        check.equal("P42 no act yet", "IllegalStateException", Check.outcome(o -> o.undo(), made()));
        for (int undone = 1; undone <= 8; undone++) {
            LayeredChute object = ticked(9);
            check.equal("P42 8 of 9 can be undone", 8, object.size(9));
            for (int left = 7; left >= 8 - undone; left--) {
                check.equal("P42 left to undo", left, object.undo());
                check.equal("P42 size(9)", left, object.size(9));
            }
            check.equal("P42 as it was, undone " + undone, Check.world(ticked(9 - undone)), Check.world(object));
        }
        LayeredChute object = ticked(9);
        for (int i = 0; i < 8; i++) {
            object.undo();
        }
        check.equal("P42 the first of the nine stays", "IllegalStateException", Check.outcome(o -> o.undo(), object));
        check.equal("P42 acts that were undone count", 9, object.account(0));
        object.tick(2);
        object.open(0);
        check.equal("P42 new acts", 1, object.undo());
        check.equal("P42 new acts are undone", 0, object.undo());
        check.equal("P42 back again", Check.world(ticked(1)), Check.world(object));
        check.thrown("P42 no act to undo", IllegalStateException.class, KeepTest::made, o -> o.undo());
        undoIsMixed();
    }

    private static LayeredChute ticked(int times) {
        LayeredChute object = made();
        for (int i = 0; i < times; i++) {
            object.tick(1);
        }
        return object;
    }

    private void undoIsMixed() {
        LayeredChute object = made();
        for (int i = 0; i < 25; i++) {
            object.setTarget(390, 1 + i);
            if (i % 3 == 2) {
                object.undo();
            }
        }
        check.equal("P42 mixed with undoing", "8 25", object.size(9) + " " + object.targetAt(390));
        object.undo();
        object.undo();
        object.undo();
        check.equal("P42 the right ones are left", "5 20", object.size(9) + " " + object.targetAt(390));
    }

    private void undoEachAct() {
        undone("tick", KeepTest::made, o -> o.tick(3));
        undone("tick until it lands", KeepTest::made, o -> o.tick(200));
        undone("fallTo", KeepTest::made, o -> o.fallTo(100));
        undone("open", KeepTest::made, o -> o.open(0));
        undone("open, jammed", KeepTest::made, o -> o.open(1));
        undone("setTarget", KeepTest::made, o -> o.setTarget(390, 5));
        undone("setTarget of another speed", KeepTest::made, o -> o.setTarget(200, 5));
        undone("setTarget that changes nothing", KeepTest::made, o -> o.setTarget(200, 10));
        undone("jam", KeepTest::made, o -> o.jam(0, true));
        undone("jam that changes nothing", KeepTest::made, o -> o.jam(0, false));
        undone("openReserve", KeepTest::opened, o -> o.openReserve());
        undone("cut", KeepTest::opened, o -> o.cut(0));
        undone("steer", KeepTest::opened, o -> o.steer(-4));
        undone("steer that changes nothing", KeepTest::opened, o -> o.steer(0));
        undone("tick, with lines that tear", KeepTest::opened, o -> o.tick(1));
        undone("tick, with all that can be", KeepTest::steered, o -> o.tick(4));
        undone("setTarget when it has landed", KeepTest::landed, o -> o.setTarget(1, 1));
    }

    private static LayeredChute opened() {
        LayeredChute object = made();
        object.open(0);
        object.open(1);
        object.open(2);
        return object;
    }

    private static LayeredChute steered() {
        LayeredChute object = opened();
        object.openReserve();
        object.steer(5);
        return object;
    }

    private static LayeredChute landed() {
        LayeredChute object = steered();
        object.fallTo(0);
        return object;
    }

    private void undone(String what, Supplier<LayeredChute> maker, Check.Call call) {
        LayeredChute object = maker.get();
        String world = Check.world(object);
        int undoable = object.size(9);
        boolean isDone = Integer.parseInt(Check.outcome(call, object)) >= 0;
        check.equal("P42 " + what + " is done", true, isDone);
        boolean isSame = world.equals(Check.world(object));
        check.equal("P42 " + what + " changes something", !what.contains("nothing"), !isSame);
        check.equal("P42 " + what + ", left", undoable, object.undo());
        check.equal("P42 " + what + " is undone", world, Check.world(object));
    }

    /** The latest 30 events push out the earliest ones: these must come back, too. */
    private void eventsComeBack() {
        check.equal("there are more than 30 events", 30, tearing(8).size(8));
        for (int undone = 1; undone <= 8; undone++) {
            LayeredChute object = tearing(8);
            for (int i = 0; i < undone; i++) {
                object.undo();
            }
            check.equal("P42 the events come back, " + undone, Check.events(tearing(8 - undone)),
                    Check.events(object));
        }
        String early = Check.events(tearing(-1));
        LayeredChute object = tearing(8);
        String late = Check.events(object);
        object.save(1);
        object.restore(0);
        check.equal("P44 the early events", early, Check.events(object));
        object.cut(0);
        object.cut(1);
        object.restore(1);
        check.equal("P44 the late events", late, Check.events(object));
        Check.load(object, "capsule 30 20 10;");
        object.tick(1);
        check.equal("other events", "0 6 -1 3", Check.events(object));
        eventsComeBackBehindASetup(early, late);
    }

    private void eventsComeBackBehindASetup(String early, String late) {
        for (int slot = 0; slot <= 1; slot++) {
            LayeredChute object = tearing(8);
            object.save(1);
            Check.load(object, "capsule 30 20 10;");
            object.tick(1);
            object.restore(slot);
            check.equal("P44 the events behind another setup, " + slot, slot == 0 ? early : late, Check.events(object));
        }
    }

    /** Eight layers of which lines tear, saved early in slot 0; then 20 seconds and so many acts. */
    private static LayeredChute tearing(int acts) {
        StringBuilder setup = new StringBuilder("capsule 30000 40 99;");
        for (int layer = 0; layer < 8; layer++) {
            setup.append("layer 1 12 ").append(1 + layer).append(" below 30000 under 400;");
        }
        LayeredChute object = Check.made(setup.toString());
        for (int layer = 0; layer < 8; layer++) {
            object.open(layer);
        }
        object.save(0);
        if (acts >= 0) {
            object.tick(20);
        }
        for (int i = 0; i < acts; i++) {
            int answer = i % 2 == 0 ? object.tick(3) : object.steer(i);
            if (answer < 0) {
                throw new AssertionError("act " + i + " is refused");
            }
        }
        return object;
    }

    private void undoOfWhatIsNoAct() {
        LayeredChute object = made();
        object.tick(1);
        object.cut(0);
        object.openReserve();
        Check.outcome(o -> o.tick(0), object);
        check.equal("P42 refusals can not be undone", 1, object.size(9));
        object.save(0);
        object.write();
        object.landIn();
        check.equal("P42 nor what is no act", 1, object.size(9));
        Check.play(object, "tick 1;open 0;cut 1;tick 1;");
        check.equal("P42 commands that were done can", 3, object.size(9));
        check.equal("P42 one by one", "2 P", object.undo() + " " + Check.written(object).substring(0, 1));
        Check.play(object, "tick 1;open");
        check.equal("P42 not those of a script with an error", 2, object.size(9));
        Check.load(object, "capsule");
        check.equal("P42 a setup with an error", 2, object.size(9));
        Check.load(object, SETUP);
        check.equal("P42 none behind a setup", "IllegalStateException", Check.outcome(o -> o.undo(), object));
    }

    private void undoKeepsTheRest() {
        LayeredChute object = made();
        object.open(0);
        Check.load(object, "capsule;");
        object.save(1);
        Check.written(object);
        object.append(0x61626300, 0, 0, 0, 0);
        object.cut(1);
        object.undo();
        check.equal("P42 the text stays", 4, object.append(0x64000000, 0, 0, 0, 0));
        check.equal("P42 the error stays", "1 7", object.errorCode() + " " + object.errorPosition());
        check.equal("P42 the output stays", "O12", Check.outputOf(object, 3));
        check.equal("P42 the accounts stay", "1 0 0 0 0 0 0 0 1 0", Check.accounts(object));
        check.equal("P42 the layer is packed", 0, object.chute(0, 5));
        check.equal("P42 the saved state stays", "0 1", object.restore(1) + " " + object.chute(0, 5));
    }

    private void save() {
        LayeredChute object = made();
        check.equal("P43 TIME is 0", 0, object.save(0));
        object.tick(2);
        check.equal("P43 TIME is 2", 2, object.save(1));
        String world = Check.world(object);
        check.equal("P43 the acts can be undone still", 1, object.size(9));
        object.tick(1);
        check.equal("P44 TIME is 2 again", 2, object.restore(1));
        check.equal("P44 all is as it was", world, Check.world(object));
        check.equal("P44 no act can be undone", 0, object.size(9));
        check.equal("P44 no act can be undone", "IllegalStateException", Check.outcome(o -> o.undo(), object));
        check.equal("P44 the other one", 0, object.restore(0));
        check.equal("P44 the other one is as it was", Check.world(made()), Check.world(object));
        object.open(0);
        check.equal("P44 it stays saved", "2 2", object.restore(1) + " " + object.restore(1));
        check.equal("P44 acts behind it do not change it", world, Check.world(object));
        object.tick(3);
        check.equal("P43 it is replaced", 5, object.save(1));
        object.undo();
        check.equal("P44 the new one", 5, object.restore(1));
        check.equal("P43 the other one is not", 0, object.restore(0));
    }

    private void saveKeepsEverything() {
        LayeredChute busy = StateTest.busy();
        busy.steer(-7);
        busy.jam(4, true);
        busy.setTarget(77, 7);
        String world = Check.world(busy);
        busy.save(0);
        check.equal("another setup", 0, Check.load(busy, "capsule 12000 400 99;"));
        busy.tick(1);
        check.equal("HEAT", 85, busy.capsule(4));
        String hot = Check.world(busy);
        busy.save(1);
        check.equal("P44 behind another setup", 1, busy.restore(0));
        check.equal("P44 everything is back", world, Check.world(busy));
        check.equal("P44 it goes on from there", Check.fall(goneOn()), fallOnce(busy));
        busy.restore(1);
        check.equal("P44 everything of the other one", hot, Check.world(busy));
    }

    private static LayeredChute goneOn() {
        LayeredChute object = StateTest.busy();
        object.steer(-7);
        object.jam(4, true);
        object.setTarget(77, 7);
        object.tick(1);
        return object;
    }

    private static String fallOnce(LayeredChute object) {
        object.tick(1);
        return Check.fall(object);
    }

    private void restoreKeepsTheRest() {
        LayeredChute object = made();
        object.save(0);
        object.open(0);
        object.cut(1);
        Check.load(object, "capsule;");
        Check.written(object);
        object.append(0x61626300, 0, 0, 0, 0);
        object.save(1);
        object.restore(0);
        check.equal("P44 the text stays", 4, object.append(0x64000000, 0, 0, 0, 0));
        check.equal("P44 the error stays", "1 7", object.errorCode() + " " + object.errorPosition());
        check.equal("P44 the output stays", "O12", Check.outputOf(object, 3));
        check.equal("P44 the accounts stay", "1 0 0 0 0 0 0 0 1 0", Check.accounts(object));
        check.equal("P44 the layer is packed", 0, object.chute(0, 5));
        check.equal("P44 the other saved state stays", "0 1", object.restore(1) + " " + object.chute(0, 5));
    }

    private void wrongSlots() {
        for (int slot : new int[] {-1, 2, Integer.MIN_VALUE, Integer.MAX_VALUE}) {
            check.thrown("P43 slot " + slot, IndexOutOfBoundsException.class, StateTest::busy, o -> o.save(slot));
            check.thrown("P44 slot " + slot, IndexOutOfBoundsException.class, StateTest::busy, o -> o.restore(slot));
        }
        check.thrown("P44 nothing is saved in 0", IllegalStateException.class, StateTest::busy, o -> o.restore(0));
        check.thrown("P44 nothing is saved in 1", IllegalStateException.class, KeepTest::savedInZero,
                o -> o.restore(1));
    }

    private static LayeredChute savedInZero() {
        LayeredChute object = made();
        object.tick(1);
        object.save(0);
        object.tick(1);
        return object;
    }
}
