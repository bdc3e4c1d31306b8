/** The edges of promises 17 and 18: why a layer or the reserve is open, or is not. AIR is 100 below 400 metres. */
final class EdgeReasons {
    private static final String WHY = "Returns 0 it is open; 1 it failed because its lines tore; 2 it failed because it was jammed; 3 it is cut away; otherwise it is packed: 4 HEIGHT is above its CEILING; 5 SPEED is above its MOST; 6 the capsule does not ask for brakes; 7 a layer with a lower number may open; 8 none of these (the first of 4 to 8 that applies).";
    private static final String WHY_RESERVE = "0 it is open; 1 there is none; 2 it is neither packed nor open; 3 HEIGHT is above its CEILING; 4 fewer than FAILS layers have failed; 5 a layer may open; 6 the capsule does not ask for brakes; 7 none of these (the first that applies).";
    private static final String MAY_OPEN = "A layer may open (a jammed one, too) if it is packed, HEIGHT is at most its CEILING, and SPEED is at most its MOST.";
    private static final String ASKED = "capsule 390 20 10;target 390 19;";

    // ---- promise 17

    @Sentence("Throws `IndexOutOfBoundsException` if there is no such layer")
    void p17NoSuchLayer(Check check) {
        for (int layer : new int[] {-1, 5, 6, Integer.MIN_VALUE, Integer.MAX_VALUE}) {
            check.thrown("layer " + layer, IndexOutOfBoundsException.class, StateTest::busy, o -> o.why(layer));
        }
        check.equal("without layers", "IndexOutOfBoundsException", Check.outcome(o -> o.why(0), new LayeredChute()));
    }

    @Sentence(WHY)
    void p17NotPacked(Check check) {
        LayeredChute object = Check.made("capsule 390 20 10;layer 1 1 99 below 390 under 400;"
                + "layer 99 1 1 below 390 under 400;layer 1 1 9 below 390 under 400 jammed;"
                + "layer 1 1 9 below 390 under 400;");
        for (int layer = 0; layer < 4; layer++) {
            object.open(layer);
        }
        object.cut(3);
        object.tick(1);
        check.equal("0 to 3", "0 1 2 3", Check.whys(object));
    }

    @Sentence(WHY)
    void p17AboveItsCeiling(Check check) {
        check.equal("one metre above", 4, Check.made(ASKED + "layer 1 1 9 below 389 under 400;").why(0));
        check.equal("ahead of 5 and 6", 4, Check.made("capsule 390 20 10;layer 1 1 9 below 389 under 19;").why(0));
        check.equal("ahead of 7", "8 4", Check.whys(Check.made(ASKED + "layer 1 1 9 below 390 under 20;"
                + "layer 1 1 9 below 389 under 20;")));
        check.equal("at its CEILING", 8, Check.made(ASKED + "layer 1 1 9 below 390 under 400;").why(0));
    }

    @Sentence(WHY)
    void p17AboveItsMost(Check check) {
        check.equal("one above", 5, Check.made(ASKED + "layer 1 1 9 below 390 under 19;").why(0));
        check.equal("ahead of 6", 5, Check.made("capsule 390 20 10;layer 1 1 9 below 390 under 19;").why(0));
        check.equal("ahead of 7", "8 5", Check.whys(Check.made(ASKED + "layer 1 1 9 below 390 under 20;"
                + "layer 1 1 9 below 390 under 19;")));
        check.equal("at its MOST", 8, Check.made(ASKED + "layer 1 1 9 below 390 under 20;").why(0));
    }

    @Sentence(WHY)
    void p17NotAskedFor(Check check) {
        String layers = "layer 1 1 9 below 390 under 20;layer 1 1 9 below 390 under 20;";
        check.equal("there is no target", "6 6", Check.whys(Check.made("capsule 390 20 10;" + layers)));
        check.equal("SPEED is the target", "6 6", Check.whys(Check.made("capsule 390 20 10;target 390 20;" + layers)));
        check.equal("SPEED is one above", "8 7", Check.whys(Check.made("capsule 390 20 10;target 390 19;" + layers)));
    }

    @Sentence(WHY)
    void p17ALowerNumberMayOpen(Check check) {
        String last = "layer 1 1 9 below 390 under 20;";
        check.equal("it may", 7, Check.made(ASKED + last + last).why(1));
        check.equal("it is jammed, but may", 7, Check.made(ASKED + "layer 1 1 9 below 390 under 20 jammed;" + last).why(1));
        check.equal("it is above its CEILING", 8, Check.made(ASKED + "layer 1 1 9 below 389 under 20;" + last).why(1));
        check.equal("it is above its MOST", 8, Check.made(ASKED + "layer 1 1 9 below 390 under 19;" + last).why(1));
        LayeredChute object = Check.made(ASKED + last + last);
        object.open(0);
        check.equal("it is open", 8, object.why(1));
        check.equal("a higher number does not matter", 8, Check.made(ASKED + last + last).why(0));
        check.equal("the last of eight", 7, Check.made(ASKED + "layer 1 1 9 below 389 under 20;".repeat(6) + last + last)
                .why(7));
    }

    @Sentence(WHY)
    void p17NoneOfThese(Check check) {
        check.equal("a jammed one, too", 8, Check.made(ASKED + "layer 1 1 9 below 390 under 20 jammed;").why(0));
        LayeredChute object = Check.made(ASKED + "layer 1 1 9 below 390 under 20 jammed;");
        object.tick(1);
        check.equal("it opens then, and fails", 2, object.why(0));
    }

    @Sentence(MAY_OPEN)
    void p17MayOpen(Check check) {
        String[] layers = {"below 390 under 20", "below 389 under 20", "below 390 under 19", "below 390 under 20 jammed"};
        String[] due = {"8 7", "4 8", "5 8", "8 7"};
        for (int i = 0; i < layers.length; i++) {
            check.equal(layers[i], due[i], Check.whys(Check.made(ASKED + "layer 1 1 9 " + layers[i]
                    + ";layer 1 1 9 below 390 under 20;")));
        }
    }

    // ---- promise 18

    private static final String JAMMED = "layer 1 1 9 below 390 under 400 jammed;";

    @Sentence(WHY_RESERVE)
    void p18ThereIsNone(Check check) {
        check.equal("without chutes", 1, new LayeredChute().whyReserve());
        check.equal("layers alone", 1, Check.made(ASKED + JAMMED).whyReserve());
    }

    @Sentence(WHY_RESERVE)
    void p18OpenOrNeither(Check check) {
        LayeredChute object = StateTest.busy();
        check.equal("open", 0, object.whyReserve());
        object.cut(5);
        check.equal("cut away", 2, object.whyReserve());
        LayeredChute torn = failed(1, "reserve 99 1 1 below 390 after 1;");
        torn.openReserve();
        check.equal("open, but not for long", 0, torn.whyReserve());
        torn.tick(1);
        check.equal("all its lines tore", 2, torn.whyReserve());
    }

    @Sentence(WHY_RESERVE)
    void p18AboveItsCeiling(Check check) {
        check.equal("one metre above", 3, failed(1, "reserve 1 1 9 below 389 after 1;").whyReserve());
        check.equal("ahead of 4 and 5", 3, Check.made("capsule 390 20 10;" + JAMMED + "reserve 1 1 9 below 389 after 1;")
                .whyReserve());
        check.equal("at its CEILING", 7, failed(1, "reserve 1 1 9 below 390 after 1;").whyReserve());
    }

    @Sentence(WHY_RESERVE)
    void p18FewerThanFails(Check check) {
        check.equal("one of two", 4, failed(1, "reserve 1 1 9 below 390 after 2;").whyReserve());
        check.equal("two of two", 7, failed(2, "reserve 1 1 9 below 390 after 2;").whyReserve());
        check.equal("three of two", 7, failed(3, "reserve 1 1 9 below 390 after 2;").whyReserve());
        check.equal("eight of eight", 7, failed(8, "reserve 1 1 9 below 390 after 8;").whyReserve());
        check.equal("seven of eight", 4, failed(7, "reserve 1 1 9 below 390 after 8;").whyReserve());
        check.equal("ahead of 5", 4, Check.made(ASKED + JAMMED + "reserve 1 1 9 below 390 after 1;").whyReserve());
        check.equal("without layers", 4, Check.made(ASKED + "reserve 1 1 9 below 390 after 1;").whyReserve());
    }

    @Sentence(WHY_RESERVE)
    void p18ALayerMayOpen(Check check) {
        String reserve = "reserve 1 1 9 below 390 after 1;";
        check.equal("it may", 5, failed(1, reserve + "layer 1 1 9 below 390 under 20;").whyReserve());
        check.equal("it is jammed, but may", 5, failed(1, reserve + JAMMED).whyReserve());
        check.equal("it is above its CEILING", 7, failed(1, reserve + "layer 1 1 9 below 389 under 20;").whyReserve());
        check.equal("it is above its MOST", 7, failed(1, reserve + "layer 1 1 9 below 390 under 19;").whyReserve());
        LayeredChute object = failed(1, reserve + "layer 1 1 9 below 390 under 20;");
        object.setTarget(390, 400);
        check.equal("ahead of 6", 5, object.whyReserve());
    }

    @Sentence(WHY_RESERVE)
    void p18NotAskedFor(Check check) {
        LayeredChute object = failed(1, "reserve 1 1 9 below 390 after 1;");
        object.setTarget(390, 20);
        check.equal("SPEED is the target", 6, object.whyReserve());
        object.setTarget(390, 19);
        check.equal("SPEED is one above", 7, object.whyReserve());
        object.tick(1);
        check.equal("it opens then", 0, object.whyReserve());
    }

    /** Brakes are asked for, and so many layers have failed by hand. */
    private static LayeredChute failed(int layers, String more) {
        LayeredChute object = Check.made(ASKED + JAMMED.repeat(layers) + more);
        for (int layer = 0; layer < layers; layer++) {
            object.open(layer);
        }
        return object;
    }
}
