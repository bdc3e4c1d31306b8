import java.util.function.Supplier;

/** The edges of promises 32 to 39: the acts, their reasons and exceptions. AIR is 100 below 400 metres. */
final class EdgeActs {
    private static final String AHEAD = "Exceptions come ahead of reasons.";
    private static final String REFUSED = "An act is done, or refused with a reason (the first one that applies of those listed with the method); a refused act changes nothing but the accounts.";
    private static final String OPEN = "Returns its state then (1, or 3 if it is jammed); or minus the reason: 1 the capsule has landed; 3 it is not packed; 4 HEIGHT is above its CEILING; 5 SPEED is above its MOST.";
    private static final String OPEN_RESERVE = "Returns how many layers have failed; or minus the reason: 1 the capsule has landed; 3 there is none, or it is not packed; 4 HEIGHT is above its CEILING; 6 fewer than FAILS layers have failed; 7 a layer may open.";
    private static final String JAMMED = "layer 1 1 9 below 390 under 400 jammed;";
    private static final int[] FAR = {-1, Integer.MIN_VALUE, Integer.MAX_VALUE};

    private static LayeredChute of(String more) {
        return Check.made("capsule 390 20 10;" + more);
    }

    private static LayeredChute opened(String more) {
        LayeredChute object = of(more);
        object.open(0);
        return object;
    }

    /** Layer 0 is open, layer 1 and the reserve are packed. */
    private static LayeredChute landed() {
        LayeredChute object = opened("layer 10 4 9999 below 390 under 20;layer 10 4 9999 below 390 under 20;"
                + "reserve 1 1 1 below 390 after 1;");
        object.fallTo(0);
        return object;
    }

    private static LayeredChute landedBare() {
        LayeredChute object = new LayeredChute();
        object.fallTo(0);
        return object;
    }

    private static LayeredChute busy() {
        return StateTest.busy();
    }

    private static void illegal(Check check, int[] wrong, Supplier<LayeredChute> maker, Act act) {
        for (int number : wrong) {
            check.thrown("" + number, IllegalArgumentException.class, maker, o -> act.on(o, number));
        }
        for (int number : FAR) {
            check.thrown("" + number, IllegalArgumentException.class, maker, o -> act.on(o, number));
        }
    }

    private static void bounds(Check check, int first, Supplier<LayeredChute> maker, Act act) {
        check.thrown("the first number beyond", IndexOutOfBoundsException.class, maker, o -> act.on(o, first));
        for (int number : FAR) {
            check.thrown("" + number, IndexOutOfBoundsException.class, maker, o -> act.on(o, number));
        }
    }

    private interface Act {
        int on(LayeredChute object, int number);
    }

    // ---- promise 32

    @Sentence("Throws `IllegalArgumentException` if seconds is out of range")
    void p32OutOfRange(Check check) {
        illegal(check, new int[] {0, 201}, EdgeActs::busy, (o, seconds) -> o.tick(seconds));
    }

    @Sentence(AHEAD)
    void p32TheExceptionComesFirst(Check check) {
        illegal(check, new int[] {0, 201}, EdgeActs::landed, (o, seconds) -> o.tick(seconds));
    }

    @Sentence("1 to 200")
    void p32LeastAndGreatest(Check check) {
        LayeredChute object = Check.made("capsule 30000 0 1;");
        check.equal("1", "1 1", object.tick(1) + " " + object.capsule(6));
        check.equal("200", "200 201", object.tick(200) + " " + object.capsule(6));
        check.equal("two acts", "2 2", object.account(0) + " " + object.size(9));
    }

    @Sentence("Lets seconds pass, until the capsule lands.")
    void p32UntilItLands(Check check) {
        check.equal("in the first of them", 1, Check.made("capsule 30 20 10;").tick(200));
        check.equal("in the second of them", 2, Check.made("capsule 31 20 10;").tick(200));
        check.equal("in the last of them", 2, Check.made("capsule 31 20 10;").tick(2));
        LayeredChute object = Check.made("capsule 31 20 10;");
        check.equal("not yet", "1 1", object.tick(1) + " " + object.capsule(0));
    }

    @Sentence("Returns how many passed; or minus the reason: 1 it has landed.")
    void p32HasLanded(Check check) {
        check.refused("1 second", 1, EdgeActs::landed, o -> o.tick(1));
        check.refused("200 seconds", 1, EdgeActs::landedBare, o -> o.tick(200));
    }

    // ---- promise 33

    @Sentence("Throws `IllegalArgumentException` if height is out of range")
    void p33OutOfRange(Check check) {
        illegal(check, new int[] {30001}, EdgeActs::busy, (o, height) -> o.fallTo(height));
    }

    @Sentence(AHEAD)
    void p33TheExceptionComesFirst(Check check) {
        illegal(check, new int[] {30001}, EdgeActs::landed, (o, height) -> o.fallTo(height));
    }

    @Sentence("Lets seconds pass until HEIGHT is at most a height, 3000 at most (also if HEIGHT is still above it then).")
    void p33AtMostAHeight(Check check) {
        LayeredChute object = of("");
        check.equal("one metre below HEIGHT", "1 360", object.fallTo(389) + " " + object.capsule(0));
        check.equal("just HEIGHT behind a second", "1 321", object.fallTo(321) + " " + object.capsule(0));
        check.equal("one metre less takes one more", "2 223", object.fallTo(273) + " " + object.capsule(0));
        int left = object.landIn();
        check.equal("0", left + " 0", object.fallTo(0) + " " + object.capsule(0));
        check.equal("each is one act", 4, object.account(0));
    }

    @Sentence("Lets seconds pass until HEIGHT is at most a height, 3000 at most (also if HEIGHT is still above it then).")
    void p33At3000(Check check) {
        LayeredChute object = ForetellTest.feather(30000, "12 9999");
        check.equal("3000 of them", "3000 3000", object.fallTo(0) + " " + object.capsule(6));
        int height = object.capsule(0);
        int speed = object.capsule(1);
        check.equal("HEIGHT is still above", true, height > 0);
        int[] goals = {height - 1, height, height + speed - 1, height + speed};
        int[] due = {3000, 3000, 3000, 2999};
        for (int i = 0; i < goals.length; i++) {
            object = ForetellTest.feather(30000, "12 9999");
            check.equal("to " + goals[i], due[i] + " " + due[i], object.fallTo(goals[i]) + " " + object.capsule(6));
        }
    }

    @Sentence("Returns how many passed; or minus the reason: 1 it has landed; 2 HEIGHT is at most this height already.")
    void p33HasLanded(Check check) {
        check.refused("ahead of 2", 1, EdgeActs::landed, o -> o.fallTo(0));
        check.refused("ahead of 2, at 30000", 1, EdgeActs::landedBare, o -> o.fallTo(30000));
    }

    @Sentence("Returns how many passed; or minus the reason: 1 it has landed; 2 HEIGHT is at most this height already.")
    void p33AtMostThisAlready(Check check) {
        check.refused("it is the same", 2, () -> of(JAMMED), o -> o.fallTo(390));
        check.refused("it is less", 2, () -> of(JAMMED), o -> o.fallTo(391));
        check.refused("30000", 2, () -> Check.made("capsule 30000 1 1;"), o -> o.fallTo(30000));
        check.equal("it is one more", 1, of("").fallTo(389));
    }

    // ---- promise 34

    @Sentence("Throws `IndexOutOfBoundsException` if there is no such layer")
    void p34NoSuchLayer(Check check) {
        bounds(check, 5, EdgeActs::busy, (o, layer) -> o.open(layer));
        check.equal("without layers", "IndexOutOfBoundsException", Check.outcome(o -> o.open(0), new LayeredChute()));
        check.equal("the reserve alone", "IndexOutOfBoundsException", Check.outcome(o -> o.open(0),
                of("reserve 1 1 1 below 390 after 1;")));
    }

    @Sentence(AHEAD)
    void p34TheExceptionComesFirst(Check check) {
        bounds(check, 2, EdgeActs::landed, (o, layer) -> o.open(layer));
    }

    @Sentence("Opens a layer by hand, whether the capsule asks for brakes or not.")
    void p34WhetherItAsksOrNot(Check check) {
        String layer = "layer 1 1 9 below 390 under 20;";
        check.equal("it does not", 1, of(layer).open(0));
        check.equal("it does", 1, of(layer + "target 390 1;").open(0));
        check.equal("a layer with a lower number may open", 1, of(layer + layer).open(1));
    }

    @Sentence(OPEN)
    void p34ItsStateThen(Check check) {
        LayeredChute object = of("layer 1 1 9 below 390 under 20;layer 1 1 9 below 390 under 20 jammed;");
        check.equal("open", "1 1", object.open(0) + " " + object.chute(0, 5));
        check.equal("jammed", "3 3", object.open(1) + " " + object.chute(1, 5));
        check.equal("events", "0 0 0 20, 0 3 1 20", Check.events(object));
        check.equal("two acts, also the one that fails", "2 2", object.account(0) + " " + object.size(9));
    }

    @Sentence(OPEN)
    void p34HasLanded(Check check) {
        check.refused("ahead of 3", 1, EdgeActs::landed, o -> o.open(0));
        check.refused("ahead of 5", 1, EdgeActs::landed, o -> o.open(1));
    }

    @Sentence(OPEN)
    void p34NotPacked(Check check) {
        check.refused("open", 3, EdgeActs::busy, o -> o.open(0));
        check.refused("jammed", 3, EdgeActs::busy, o -> o.open(1));
        check.refused("cut away", 3, EdgeActs::busy, o -> o.open(3));
        check.refused("torn", 3, EdgeActs::torn, o -> o.open(0));
        check.refused("ahead of 5", 3, () -> {
            LayeredChute object = opened("layer 1 1 9 below 390 under 20;");
            object.tick(1);
            return object;
        }, o -> o.open(0));
    }

    private static LayeredChute torn() {
        LayeredChute object = opened("layer 99 1 1 below 390 under 400;");
        object.tick(1);
        return object;
    }

    @Sentence(OPEN)
    void p34AboveItsCeiling(Check check) {
        check.refused("one metre above", 4, () -> of("layer 1 1 9 below 389 under 400;"), o -> o.open(0));
        check.refused("ahead of 5", 4, () -> of("layer 1 1 9 below 389 under 19;"), o -> o.open(0));
        check.equal("at its CEILING", 1, of("layer 1 1 9 below 390 under 400;").open(0));
    }

    @Sentence(OPEN)
    void p34AboveItsMost(Check check) {
        check.refused("one above", 5, () -> of("layer 1 1 9 below 390 under 19;"), o -> o.open(0));
        check.refused("jammed, one above", 5, () -> of("layer 1 1 9 below 390 under 19 jammed;"), o -> o.open(0));
        check.equal("at its MOST", 1, of("layer 1 1 9 below 390 under 20;").open(0));
    }

    // ---- promise 35

    private static LayeredChute failed(int layers, String more) {
        LayeredChute object = of(JAMMED.repeat(layers) + more);
        for (int layer = 0; layer < layers; layer++) {
            object.open(layer);
        }
        return object;
    }

    @Sentence("Opens the reserve by hand, whether the capsule asks for brakes or not.")
    void p35WhetherItAsksOrNot(Check check) {
        check.equal("it does not", 1, failed(1, "reserve 1 1 9 below 390 after 1;").openReserve());
        check.equal("it does", 1, failed(1, "reserve 1 1 9 below 390 after 1;target 390 1;").openReserve());
    }

    @Sentence(OPEN_RESERVE)
    void p35HowManyHaveFailed(Check check) {
        LayeredChute object = failed(2, "reserve 1 1 9 below 390 after 1;");
        check.equal("two", 2, object.openReserve());
        check.equal("its state and event", "1 0 4 2 2", object.chute(2, 5) + " " + Check.event(object, 2));
        check.equal("eight", 8, failed(8, "reserve 1 1 9 below 390 after 8;").openReserve());
    }

    @Sentence(OPEN_RESERVE)
    void p35HasLanded(Check check) {
        check.refused("ahead of 6", 1, EdgeActs::landed, o -> o.openReserve());
        check.refused("ahead of 3", 1, EdgeActs::landedBare, o -> o.openReserve());
    }

    @Sentence(OPEN_RESERVE)
    void p35NoneOrNotPacked(Check check) {
        check.refused("there is none", 3, () -> of(JAMMED), o -> o.openReserve());
        check.refused("open", 3, EdgeActs::busy, o -> o.openReserve());
        check.refused("cut away", 3, () -> {
            LayeredChute object = busy();
            object.cut(5);
            return object;
        }, o -> o.openReserve());
        check.refused("torn", 3, () -> {
            LayeredChute object = failed(1, "reserve 99 1 1 below 390 after 1;");
            object.openReserve();
            object.tick(1);
            return object;
        }, o -> o.openReserve());
    }

    @Sentence(OPEN_RESERVE)
    void p35AboveItsCeiling(Check check) {
        check.refused("one metre above", 4, () -> failed(1, "reserve 1 1 9 below 389 after 1;"), o -> o.openReserve());
        check.refused("ahead of 6 and 7", 4, () -> of(JAMMED + "reserve 1 1 9 below 389 after 1;"),
                o -> o.openReserve());
        check.equal("at its CEILING", 1, failed(1, "reserve 1 1 9 below 390 after 1;").openReserve());
    }

    @Sentence(OPEN_RESERVE)
    void p35FewerThanFails(Check check) {
        check.refused("none of one, ahead of 7", 6, () -> of(JAMMED + "reserve 1 1 9 below 390 after 1;"),
                o -> o.openReserve());
        check.refused("one of two", 6, () -> failed(1, "reserve 1 1 9 below 390 after 2;"), o -> o.openReserve());
        check.refused("seven of eight", 6, () -> failed(7, "reserve 1 1 9 below 390 after 8;"), o -> o.openReserve());
        check.refused("without layers", 6, () -> of("reserve 1 1 9 below 390 after 1;"), o -> o.openReserve());
        check.equal("two of two", 2, failed(2, "reserve 1 1 9 below 390 after 2;").openReserve());
    }

    @Sentence(OPEN_RESERVE)
    void p35ALayerMayOpen(Check check) {
        String reserve = "reserve 1 1 9 below 390 after 1;";
        check.refused("it may", 7, () -> failed(1, reserve + "layer 1 1 9 below 390 under 20;"), o -> o.openReserve());
        check.refused("it is jammed, but may", 7, () -> failed(1, reserve + JAMMED), o -> o.openReserve());
        check.equal("it is above its CEILING", 1, failed(1, reserve + "layer 1 1 9 below 389 under 20;").openReserve());
        check.equal("it is above its MOST", 1, failed(1, reserve + "layer 1 1 9 below 390 under 19;").openReserve());
    }

    // ---- promise 36

    @Sentence("Throws `IndexOutOfBoundsException` if there is no such chute")
    void p36NoSuchChute(Check check) {
        bounds(check, 6, EdgeActs::busy, (o, chute) -> o.cut(chute));
        check.equal("without chutes", "IndexOutOfBoundsException", Check.outcome(o -> o.cut(0), new LayeredChute()));
    }

    @Sentence(AHEAD)
    void p36TheExceptionComesFirst(Check check) {
        bounds(check, 3, EdgeActs::landed, (o, chute) -> o.cut(chute));
    }

    @Sentence("Returns how many chutes are open then; or minus the reason: 1 the capsule has landed; 8 it is not open.")
    void p36HowManyAreOpenThen(Check check) {
        LayeredChute object = busy();
        check.equal("two", 2, object.cut(2));
        check.equal("its event tells the lines that are there", "1 5 2 9", Check.event(object, 7));
        check.equal("one, without the reserve", "1 4", object.cut(5) + " " + object.chute(5, 5));
        check.equal("none", 0, object.cut(0));
    }

    @Sentence("Returns how many chutes are open then; or minus the reason: 1 the capsule has landed; 8 it is not open.")
    void p36HasLanded(Check check) {
        check.refused("open", 1, EdgeActs::landed, o -> o.cut(0));
        check.refused("ahead of 8", 1, EdgeActs::landed, o -> o.cut(1));
    }

    @Sentence("Returns how many chutes are open then; or minus the reason: 1 the capsule has landed; 8 it is not open.")
    void p36NotOpen(Check check) {
        check.refused("jammed", 8, EdgeActs::busy, o -> o.cut(1));
        check.refused("cut away", 8, EdgeActs::busy, o -> o.cut(3));
        check.refused("packed", 8, EdgeActs::busy, o -> o.cut(4));
        check.refused("torn", 8, EdgeActs::torn, o -> o.cut(0));
        check.refused("the reserve, packed", 8, () -> failed(1, "reserve 1 1 9 below 390 after 1;"), o -> o.cut(1));
    }

    // ---- promise 37

    @Sentence("Throws `IllegalArgumentException` if slip is out of range")
    void p37OutOfRange(Check check) {
        for (int slip : new int[] {-10, 10, Integer.MIN_VALUE, Integer.MAX_VALUE}) {
            check.thrown("" + slip, IllegalArgumentException.class, EdgeActs::busy, o -> o.steer(slip));
        }
    }

    @Sentence(AHEAD)
    void p37TheExceptionComesFirst(Check check) {
        for (int slip : new int[] {-10, 10}) {
            check.thrown("landed, " + slip, IllegalArgumentException.class, EdgeActs::landed, o -> o.steer(slip));
            check.thrown("none open, " + slip, IllegalArgumentException.class, () -> of(JAMMED), o -> o.steer(slip));
        }
    }

    @Sentence("Returns the SLIP that there was, plus 9; or minus the reason: 1 the capsule has landed; 8 no chute is open.")
    void p37LeastToGreatest(Check check) {
        LayeredChute object = busy();
        check.equal("0 to -9", "9 -9", object.steer(-9) + " " + object.capsule(5));
        check.equal("-9 to 9", "0 9", object.steer(9) + " " + object.capsule(5));
        check.equal("9 to 9", "18 9", object.steer(9) + " " + object.capsule(5));
        check.equal("three acts", 10, object.account(0));
    }

    @Sentence("Returns the SLIP that there was, plus 9; or minus the reason: 1 the capsule has landed; 8 no chute is open.")
    void p37HasLanded(Check check) {
        check.refused("a chute is open", 1, EdgeActs::landed, o -> o.steer(1));
        check.refused("ahead of 8", 1, EdgeActs::landedBare, o -> o.steer(1));
    }

    @Sentence("Returns the SLIP that there was, plus 9; or minus the reason: 1 the capsule has landed; 8 no chute is open.")
    void p37NoChuteIsOpen(Check check) {
        check.refused("without chutes", 8, LayeredChute::new, o -> o.steer(1));
        check.refused("jammed", 8, () -> failed(1, "reserve 1 1 9 below 390 after 1;"), o -> o.steer(1));
        check.refused("torn", 8, EdgeActs::torn, o -> o.steer(0));
        LayeredChute object = failed(1, "reserve 1 1 9 below 390 after 1;");
        object.openReserve();
        check.equal("the reserve alone is enough", 9, object.steer(1));
    }

    @Sentence("It stays so, also when no chute is open any more.")
    void p37ItStays(Check check) {
        LayeredChute object = opened("layer 1 1 9 below 390 under 20;");
        object.steer(-7);
        object.cut(0);
        object.tick(1);
        check.equal("cut away", -7, object.capsule(5));
        check.refused("it can not be set then", 8, () -> {
            LayeredChute cut = opened("layer 1 1 9 below 390 under 20;");
            cut.steer(-7);
            cut.cut(0);
            return cut;
        }, o -> o.steer(0));
        LayeredChute torn = opened("layer 99 1 1 below 390 under 400;");
        torn.steer(9);
        torn.tick(1);
        check.equal("torn", "2 9", torn.chute(0, 5) + " " + torn.capsule(5));
    }

    // ---- promise 38

    @Sentence("Throws `IllegalArgumentException` if height or speed is out of range")
    void p38HeightOutOfRange(Check check) {
        illegal(check, new int[] {0, 30001}, EdgeActs::busy, (o, height) -> o.setTarget(height, 5));
    }

    @Sentence("Throws `IllegalArgumentException` if height or speed is out of range")
    void p38SpeedOutOfRange(Check check) {
        illegal(check, new int[] {0, 401}, EdgeActs::busy, (o, speed) -> o.setTarget(5, speed));
    }

    @Sentence(AHEAD)
    void p38TheExceptionComesFirst(Check check) {
        illegal(check, new int[] {0, 401}, EdgeActs::eightTargets, (o, speed) -> o.setTarget(9, speed));
        illegal(check, new int[] {0, 30001}, EdgeActs::eightTargets, (o, height) -> o.setTarget(height, 1));
    }

    private static LayeredChute eightTargets() {
        return of("target 1 1;target 2 1;target 3 1;target 4 1;target 5 1;target 6 1;target 7 1;target 8 1;");
    }

    @Sentence("Returns how many targets there are then; or minus the reason: 9 there are 8 others.")
    void p38UpTo8(Check check) {
        LayeredChute object = of("");
        check.equal("the least height and speed", "1 1", object.setTarget(1, 1) + " " + object.targetAt(0));
        check.equal("the greatest height and speed", "2 400", object.setTarget(30000, 400) + " " + object.targetAt(30000));
        for (int count = 3; count <= 8; count++) {
            check.equal("the next", count, object.setTarget(10 * count, count));
        }
        check.equal("the 8th is there", 8, object.targetAt(80));
    }

    @Sentence("Returns how many targets there are then; or minus the reason: 9 there are 8 others.")
    void p38EightOthers(Check check) {
        check.refused("a 9th", 9, EdgeActs::eightTargets, o -> o.setTarget(9, 1));
        check.refused("a 9th at 30000", 9, EdgeActs::eightTargets, o -> o.setTarget(30000, 400));
    }

    @Sentence("Sets the speed of the target with a height, which is made if there is none such.")
    void p38OneOfThe8(Check check) {
        LayeredChute object = eightTargets();
        check.equal("the first", "8 9", object.setTarget(1, 9) + " " + object.targetAt(1));
        check.equal("the last", "8 7", object.setTarget(8, 7) + " " + object.targetAt(8));
        check.equal("the same speed again", "8 7", object.setTarget(8, 7) + " " + object.targetAt(8));
        check.equal("three acts", 3, object.account(0));
    }

    @Sentence("Returns how many targets there are then; or minus the reason: 9 there are 8 others.")
    void p38HasLanded(Check check) {
        check.equal("it is done", 1, landed().setTarget(1, 1));
    }

    // ---- promise 39

    @Sentence("Throws `IndexOutOfBoundsException` if there is no such layer")
    void p39NoSuchLayer(Check check) {
        bounds(check, 5, EdgeActs::busy, (o, layer) -> o.jam(layer, true));
        bounds(check, 5, EdgeActs::busy, (o, layer) -> o.jam(layer, false));
        check.equal("the reserve alone", "IndexOutOfBoundsException", Check.outcome(o -> o.jam(0, true),
                of("reserve 1 1 1 below 390 after 1;")));
    }

    @Sentence("Makes a packed layer jammed, or not jammed (also if it is so already).")
    void p39IfItIsSoAlready(Check check) {
        LayeredChute object = of("layer 1 1 9 below 390 under 20;");
        check.equal("not jammed, again", "0 0", object.jam(0, false) + " " + object.chute(0, 7));
        check.equal("jammed", "1 1", object.jam(0, true) + " " + object.chute(0, 7));
        check.equal("jammed, again", "1 1", object.jam(0, true) + " " + object.chute(0, 7));
        check.equal("not jammed", "0 0", object.jam(0, false) + " " + object.chute(0, 7));
        check.equal("four acts", "4 4", object.account(0) + " " + object.size(9));
        check.equal("it opens", 1, object.open(0));
    }

    @Sentence("Returns how many packed layers are jammed then; or minus the reason: 3 it is not packed.")
    void p39HowManyAreJammedThen(Check check) {
        LayeredChute object = of(JAMMED.repeat(8));
        check.equal("all eight", 8, object.jam(7, true));
        check.equal("seven", 7, object.jam(0, false));
        object.open(1);
        check.equal("one has failed by that", 6, object.jam(0, false));
        check.equal("none is left", 0, of(JAMMED).jam(0, false));
    }

    @Sentence("Returns how many packed layers are jammed then; or minus the reason: 3 it is not packed.")
    void p39NotPacked(Check check) {
        check.refused("open", 3, EdgeActs::busy, o -> o.jam(0, true));
        check.refused("jammed", 3, EdgeActs::busy, o -> o.jam(1, false));
        check.refused("jammed, again", 3, EdgeActs::busy, o -> o.jam(1, true));
        check.refused("cut away", 3, EdgeActs::busy, o -> o.jam(3, true));
        check.refused("torn", 3, EdgeActs::torn, o -> o.jam(0, true));
        check.refused("landed, open", 3, EdgeActs::landed, o -> o.jam(0, true));
    }

    @Sentence("Returns how many packed layers are jammed then; or minus the reason: 3 it is not packed.")
    void p39HasLanded(Check check) {
        check.equal("it is done", 1, landed().jam(1, true));
    }

    // ---- what they share

    @Sentence(REFUSED)
    void p32ARefusedActCannotBeUndone(Check check) {
        LayeredChute object = opened("layer 1 1 9 below 390 under 20;");
        object.open(0);
        object.openReserve();
        object.fallTo(390);
        check.equal("one act", "1 1", object.account(0) + " " + object.size(9));
        object.undo();
        check.equal("it is undone", "0 0 1", object.chute(0, 5) + " " + object.size(9) + " " + object.account(2));
        check.equal("refusals stay counted", 2, object.account(3));
    }
}
