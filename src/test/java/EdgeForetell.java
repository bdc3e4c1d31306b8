import java.util.NoSuchElementException;

/** The edges of promises 23 to 31: foretelling. AIR is 100 below 400 metres. */
final class EdgeForetell {
    private static final String FORETELLING = "what will be if only seconds pass, from now on, 3000 at most, until the capsule lands. It changes nothing.";
    private static final String LANDS_BEHIND = "Returns behind how many seconds the capsule will land; 0 if it has landed; NONE if that takes more than 3000.";
    private static final String FAILS = "Returns behind how many seconds its state will be 2 or 3; 0 if it is so now; NONE if it does not come.";
    private static final String RESERVE = "Returns behind how many seconds the reserve will be open for the first time; 0 if it is open now; NONE if it does not come (a reserve that opens and fails in the same second is not open behind it).";
    private static final String BEST = "Returns this SLIP plus 9, of several the one with the least absolute value, of two such ones the negative one; NONE if the capsule would land within 3000 seconds with none of them (ones with which it would not are left out).";
    private static final String REACHABLE = "Returns the spots in which X would be when the capsule lands, with at least one SLIP from -9 to 9 that was set now, as a set.";

    /** It lands behind 3 seconds, at three times its SLIP, with SPEED 29. */
    private static LayeredChute low() {
        return ForetellTest.low();
    }

    private static LayeredChute lowAndLanded(int slip) {
        LayeredChute object = low();
        object.steer(slip);
        object.fallTo(0);
        return object;
    }

    /** It floats down, straight, and lands behind so many seconds. */
    private static LayeredChute floating(int left) {
        LayeredChute object = ForetellTest.feather(30000, "12 9999");
        object.save(0);
        int all = 0;
        int passed = object.tick(200);
        for (int i = 0; i < 60 && passed > 0; i++) {
            all += passed;
            passed = object.tick(200);
        }
        object.restore(0);
        ForetellTest.pass(object, all - left);
        return object;
    }

    private static void changesNothing(Check check, Check.Call call) {
        LayeredChute object = low();
        object.steer(3);
        object.tick(1);
        LayeredChute twin = low();
        twin.steer(3);
        twin.tick(1);
        Check.outcome(call, object);
        check.equal("nothing is different", Check.everything(twin), Check.everything(object));
    }

    // ---- promises 23 to 26

    @Sentence(LANDS_BEHIND)
    void p23HasLanded(Check check) {
        check.equal("0", 0, lowAndLanded(0).landIn());
    }

    @Sentence(LANDS_BEHIND)
    void p23OneOrMore(Check check) {
        check.equal("just one", 1, Check.made("capsule 30 20 10;").landIn());
        check.equal("one metre more", 2, Check.made("capsule 31 20 10;").landIn());
        check.equal("three", 3, low().landIn());
    }

    @Sentence(LANDS_BEHIND)
    void p23MoreThan3000(Check check) {
        check.equal("2999", 2999, floating(2999).landIn());
        check.equal("3000", 3000, floating(3000).landIn());
        check.equal("3001", LayeredChute.NONE, floating(3001).landIn());
    }

    @Sentence(FORETELLING)
    void p23ChangesNothing(Check check) {
        changesNothing(check, o -> o.landIn());
    }

    @Sentence("Returns X when the capsule lands (X if it has landed).")
    void p24HasLanded(Check check) {
        check.equal("X", -6, lowAndLanded(-2).landAt());
    }

    @Sentence("Returns X when the capsule lands (X if it has landed).")
    void p24Lands(Check check) {
        LayeredChute object = low();
        check.equal("straight", 0, object.landAt());
        object.steer(-9);
        check.equal("with the least SLIP", -27, object.landAt());
        object.steer(9);
        check.equal("with the greatest SLIP", 27, object.landAt());
    }

    @Sentence("Throws `NoSuchElementException` if landing takes more than 3000 seconds")
    void p24MoreThan3000(Check check) {
        check.equal("3000", 0, floating(3000).landAt());
        check.thrown("3001", NoSuchElementException.class, () -> floating(3001), o -> o.landAt());
    }

    @Sentence(FORETELLING)
    void p24ChangesNothing(Check check) {
        changesNothing(check, o -> o.landAt());
    }

    @Sentence("Returns SPEED when the capsule lands (SPEED if it has landed); NONE if that takes more than 3000 seconds.")
    void p25HasLanded(Check check) {
        check.equal("SPEED", 29, lowAndLanded(0).landSpeed());
        check.equal("SPEED ahead of it", 29, low().landSpeed());
    }

    @Sentence("Returns SPEED when the capsule lands (SPEED if it has landed); NONE if that takes more than 3000 seconds.")
    void p25MoreThan3000(Check check) {
        LayeredChute object = floating(3000);
        int speed = object.landSpeed();
        check.equal("3000", true, speed > 0);
        object.fallTo(0);
        check.equal("as it is then", speed, object.capsule(1));
        check.equal("3001", LayeredChute.NONE, floating(3001).landSpeed());
    }

    @Sentence(FORETELLING)
    void p25ChangesNothing(Check check) {
        changesNothing(check, o -> o.landSpeed());
    }

    @Sentence("Returns the result of the landing; NONE if that takes more than 3000 seconds.")
    void p26HasLanded(Check check) {
        check.equal("in a spot, too fast", 2, lowAndLanded(2).landResult());
        check.equal("in no spot", 3, lowAndLanded(8).landResult());
        check.equal("ahead of it", 2, low().landResult());
    }

    @Sentence("Returns the result of the landing; NONE if that takes more than 3000 seconds.")
    void p26EachResult(Check check) {
        check.equal("SPEED is SAFE", 1, Check.made("capsule 30 20 10;spot 0 0 30;").landResult());
        check.equal("SPEED is one more", 2, Check.made("capsule 30 20 10;spot 0 0 29;").landResult());
        check.equal("in no spot", 3, Check.made("capsule 30 20 10;spot 1 1 30;").landResult());
    }

    @Sentence("Returns the result of the landing; NONE if that takes more than 3000 seconds.")
    void p26MoreThan3000(Check check) {
        check.equal("3000", 2, floating(3000).landResult());
        check.equal("3001", LayeredChute.NONE, floating(3001).landResult());
    }

    @Sentence(FORETELLING)
    void p26ChangesNothing(Check check) {
        changesNothing(check, o -> o.landResult());
    }

    // ---- promise 27

    @Sentence("Throws `IndexOutOfBoundsException` if there is no such chute")
    void p27NoSuchChute(Check check) {
        for (int chute : new int[] {-1, 6, Integer.MIN_VALUE, Integer.MAX_VALUE}) {
            check.thrown("chute " + chute, IndexOutOfBoundsException.class, StateTest::busy, o -> o.failsIn(chute));
        }
        check.equal("without chutes", "IndexOutOfBoundsException", Check.outcome(o -> o.failsIn(0), new LayeredChute()));
    }

    @Sentence(FAILS)
    void p27Now(Check check) {
        LayeredChute object = Check.made("capsule 390 20 10;layer 99 1 1 below 390 under 400;"
                + "layer 1 1 1 below 390 under 400 jammed;");
        object.open(0);
        object.open(1);
        check.equal("torn in the next second, jammed now", "1 0", object.failsIn(0) + " " + object.failsIn(1));
        object.tick(1);
        check.equal("torn now", 0, object.failsIn(0));
        object.fallTo(0);
        check.equal("also when it has landed", "0 0", object.failsIn(0) + " " + object.failsIn(1));
    }

    @Sentence(FAILS)
    void p27DoesNotCome(Check check) {
        LayeredChute object = Check.made("capsule 390 20 10;layer 1 1 9999 below 390 under 400;"
                + "layer 1 1 1 below 390 under 400;layer 1 1 1 below 390 under 400 jammed;"
                + "layer 9 1 9999 below 390 under 400;");
        object.open(0);
        object.open(3);
        object.cut(3);
        check.equal("open", LayeredChute.NONE, object.failsIn(0));
        check.equal("packed", LayeredChute.NONE, object.failsIn(1));
        check.equal("jammed, but packed", LayeredChute.NONE, object.failsIn(2));
        check.equal("cut away", LayeredChute.NONE, object.failsIn(3));
        object.fallTo(0);
        check.equal("landed", LayeredChute.NONE, object.failsIn(0));
    }

    @Sentence(FAILS)
    void p27InTheLastSecond(Check check) {
        LayeredChute object = Check.made("capsule 30 20 10;layer 9 1 9 below 30 under 20;");
        object.open(0);
        check.equal("the second of the landing", "1 1", object.failsIn(0) + " " + object.landIn());
        check.equal("it lands first", LayeredChute.NONE,
                Check.made("capsule 30 20 10;layer 9 1 9 below 29 under 400;target 29 1;").failsIn(0));
    }

    @Sentence(FORETELLING)
    void p27At3000(Check check) {
        int torn = ForetellTest.untilTorn(ForetellTest.coolFeather());
        int[] left = {2999, 3000, 3001};
        int[] due = {2999, 3000, LayeredChute.NONE};
        for (int i = 0; i < left.length; i++) {
            LayeredChute object = ForetellTest.coolFeather();
            ForetellTest.pass(object, torn - left[i]);
            check.equal("" + left[i], due[i], object.failsIn(0));
        }
    }

    @Sentence(FORETELLING)
    void p27ChangesNothing(Check check) {
        changesNothing(check, o -> o.failsIn(0));
    }

    // ---- promise 28

    private static final String TWO_JAMMED = "capsule 390 20 10;layer 1 1 1 below 390 under 400 jammed;"
            + "layer 1 1 1 below 390 under 400 jammed;target 390 1;";

    @Sentence(RESERVE)
    void p28Now(Check check) {
        LayeredChute object = Check.made(TWO_JAMMED + "reserve 1 1 99 below 390 after 2;");
        check.equal("behind two layers", 3, object.reserveIn());
        object.tick(2);
        check.equal("in the next second", 1, object.reserveIn());
        object.tick(1);
        check.equal("now", 0, object.reserveIn());
        object.fallTo(0);
        check.equal("now, and landed", "1 0", object.chute(2, 5) + " " + object.reserveIn());
    }

    @Sentence(RESERVE)
    void p28DoesNotCome(Check check) {
        check.equal("there is none", LayeredChute.NONE, new LayeredChute().reserveIn());
        check.equal("one layer too few", LayeredChute.NONE,
                Check.made(TWO_JAMMED + "reserve 1 1 99 below 390 after 3;").reserveIn());
        check.equal("not asked for", LayeredChute.NONE,
                Check.made("capsule 390 20 10;reserve 1 1 99 below 390 after 1;").reserveIn());
        LayeredChute object = Check.made(TWO_JAMMED + "reserve 1 1 99 below 390 after 2;");
        object.tick(3);
        object.cut(2);
        check.equal("cut away", LayeredChute.NONE, object.reserveIn());
        check.equal("it lands ahead of it", LayeredChute.NONE,
                Check.made((TWO_JAMMED + "reserve 1 1 99 below 390 after 2;").replace("capsule 390", "capsule 60")).reserveIn());
    }

    @Sentence(RESERVE)
    void p28FailsInTheSameSecond(Check check) {
        LayeredChute object = Check.made(TWO_JAMMED + "reserve 99 9 1 below 390 after 2;");
        check.equal("it is not open behind it", "-1 3", object.reserveIn() + " " + object.failsIn(2));
        object.tick(3);
        check.equal("it has failed", "2 -1", object.chute(2, 5) + " " + object.reserveIn());
    }

    @Sentence(RESERVE)
    void p28TheFirstTime(Check check) {
        LayeredChute object = Check.made((TWO_JAMMED + "reserve 1 1 25 below 390 after 2;").replace("390", "2000"));
        check.equal("though it fails later", "3 true", object.reserveIn() + " " + (object.failsIn(2) > 3));
    }

    @Sentence(RESERVE)
    void p28InTheLastSecond(Check check) {
        LayeredChute object = Check.made((TWO_JAMMED + "reserve 1 1 99 below 390 after 2;").replace("390", "100"));
        check.equal("the second of the landing", "3 3", object.reserveIn() + " " + object.landIn());
    }

    @Sentence(FORETELLING)
    void p28At3000(Check check) {
        LayeredChute reserved = ForetellTest.reservedFeather();
        int opened = 0;
        while (reserved.capsule(0) > 12000 && opened < 6000) {
            opened += reserved.fallTo(12000);
        }
        opened += reserved.tick(1);
        check.equal("it opens when it has come to its CEILING", 1, reserved.chute(8, 5));
        int[] left = {2999, 3000, 3001};
        int[] due = {2999, 3000, LayeredChute.NONE};
        for (int i = 0; i < left.length; i++) {
            LayeredChute object = ForetellTest.reservedFeather();
            ForetellTest.pass(object, opened - left[i]);
            check.equal("" + left[i], due[i], object.reserveIn());
        }
    }

    @Sentence(FORETELLING)
    void p28ChangesNothing(Check check) {
        LayeredChute object = Check.made(TWO_JAMMED + "reserve 1 1 99 below 390 after 2;");
        object.tick(1);
        object.reserveIn();
        LayeredChute twin = Check.made(TWO_JAMMED + "reserve 1 1 99 below 390 after 2;");
        twin.tick(1);
        check.equal("nothing is different", Check.everything(twin), Check.everything(object));
    }

    // ---- promise 29

    @Sentence("Returns the greatest HEAT now and behind each of the seconds.")
    void p29Now(Check check) {
        LayeredChute object = Check.made("capsule 12000 400 99;cool 99;layer 99 12 9999 below 30000 under 400;");
        check.equal("0 now, 7 behind two seconds", 7, object.hottest());
        object.tick(1);
        object.open(0);
        check.equal("6 now, less then", "6 6", object.capsule(4) + " " + object.hottest());
        object.tick(1);
        check.equal("what was does not count", true, object.hottest() < 6);
        LayeredChute landed = Check.made("capsule 300 400 99;cool 0;");
        landed.tick(1);
        check.equal("landed: HEAT as it is", "0 142 142", landed.capsule(0) + " " + landed.capsule(4) + " "
                + landed.hottest());
    }

    @Sentence("Returns the greatest HEAT now and behind each of the seconds.")
    void p29BehindTheLastSecond(Check check) {
        check.equal("the second of the landing", 142, Check.made("capsule 300 400 99;cool 0;").hottest());
        check.equal("at most 999", 999, Check.made("capsule 30000 400 99;cool 0;").hottest());
        check.equal("never any", 0, new LayeredChute().hottest());
    }

    @Sentence(FORETELLING)
    void p29At3000(Check check) {
        LayeredChute counted = ForetellTest.coolFeather();
        int hot = ForetellTest.untilTorn(counted);
        while (counted.capsule(4) == 0 && hot < 6000) {
            hot += counted.tick(1);
        }
        LayeredChute object = ForetellTest.coolFeather();
        ForetellTest.pass(object, hot - 3001);
        check.equal("3001", 0, object.hottest());
        object.tick(1);
        check.equal("3000", counted.capsule(4), object.hottest());
    }

    @Sentence(FORETELLING)
    void p29ChangesNothing(Check check) {
        changesNothing(check, o -> o.hottest());
    }

    // ---- promise 30

    @Sentence("Throws `IndexOutOfBoundsException` if there is no such spot")
    void p30NoSuchSpot(Check check) {
        for (int spot : new int[] {-1, 3, Integer.MIN_VALUE, Integer.MAX_VALUE}) {
            check.thrown("spot " + spot, IndexOutOfBoundsException.class, StateTest::busy, o -> o.bestSlip(spot));
        }
        check.equal("without spots", "IndexOutOfBoundsException", Check.outcome(o -> o.bestSlip(0), new LayeredChute()));
        check.equal("8 spots", "IndexOutOfBoundsException", Check.outcome(o -> o.bestSlip(8), low()));
    }

    private static int best(String spot) {
        LayeredChute object = Check.made("capsule 60 20 10;layer 10 1 9999 below 30000 under 400;spot " + spot + " 9;");
        object.open(0);
        return object.bestSlip(0) - 9;
    }

    @Sentence("the distance is 0 in it, otherwise the difference of X and its nearest X.")
    void p30Distance(Check check) {
        check.equal("in it, by its first X", 2, best("6 8"));
        check.equal("in it, by its second X", 2, best("4 6"));
        check.equal("one ahead of it is nearer than two behind it", 3, best("10 10"));
        check.equal("one behind it is nearer than two ahead of it", 4, best("11 11"));
        check.equal("one ahead of it is as near as one behind it", 1, best("4 5"));
        check.equal("far to the left", -9, best("-9999 -28"));
        check.equal("far to the right", 9, best("28 9999"));
        check.equal("just the least", -9, best("-27 -27"));
        check.equal("just the greatest", 9, best("27 27"));
    }

    @Sentence(BEST)
    void p30LeastAbsoluteValue(Check check) {
        check.equal("all are in it", 0, best("-30 30"));
        check.equal("from 1 on", 1, best("1 30"));
        check.equal("to -1", -1, best("-30 -1"));
        LayeredChute packed = Check.made("capsule 60 20 10;spot 5 9 9;");
        check.equal("none makes a difference", 9, packed.bestSlip(0));
    }

    @Sentence(FORETELLING)
    void p30UntilTheCapsuleLands(Check check) {
        LayeredChute object = Check.made("capsule 31 20 10;layer 1 1 99 below 31 under 20;spot 0 0 9;");
        check.equal("one metre is left behind the first second", 9, object.bestSlip(0));
        object.open(0);
        object.tick(1);
        check.equal("one second is left", "1 9", object.landIn() + " " + object.bestSlip(0));
    }

    @Sentence(BEST)
    void p30OfTwoTheNegativeOne(Check check) {
        // The line holds with SLIP -3 to 3; otherwise it tears, and the wind does not take the capsule along.
        LayeredChute object = Check.made("capsule 60 20 10;layer 10 1 47 below 60 under 20;wind 0 30;spot 0 0 9;");
        object.open(0);
        check.equal("-4, not 4", 9 - 4, object.bestSlip(0));
    }

    @Sentence("if it was set now (whether a chute is open or not)")
    void p30WhetherOpenOrNot(Check check) {
        LayeredChute object = Check.made("capsule 60 20 10;layer 10 1 9999 below 30000 under 400;spot 27 27 9;target 60 1;");
        check.equal("a chute that opens later", 9 + 9, object.bestSlip(0));
        object.open(0);
        object.steer(-5);
        check.equal("SLIP as it is does not matter", 9 + 9, object.bestSlip(0));
    }

    @Sentence(BEST)
    void p30HasLanded(Check check) {
        check.equal("every SLIP is as good", "9 9", lowAndLanded(2).bestSlip(0) + " " + lowAndLanded(2).bestSlip(6));
    }

    @Sentence(BEST)
    void p30MoreThan3000(Check check) {
        check.equal("3000", 9, floating(3000).bestSlip(0));
        check.equal("3001", LayeredChute.NONE, floating(3001).bestSlip(0));
    }

    @Sentence(BEST)
    void p30SomeAreLeftOut(Check check) {
        LayeredChute object = ForetellTest.feather(22000, "1 97");
        int slip = object.bestSlip(1) - 9;
        check.equal("it would not land with SLIP 0", LayeredChute.NONE, object.landIn());
        check.equal("the best one is negative", true, slip < 0);
        object.steer(slip + 1);
        check.equal("it would not land with the next one", LayeredChute.NONE, object.landIn());
        object.steer(slip);
        check.equal("it would with this one", true, object.landIn() > 0);
    }

    @Sentence(FORETELLING)
    void p30ChangesNothing(Check check) {
        changesNothing(check, o -> o.bestSlip(0));
    }

    // ---- promise 31

    @Sentence(REACHABLE)
    void p31FromLeastToGreatest(Check check) {
        LayeredChute object = Check.made("capsule 60 20 10;layer 10 1 9999 below 30000 under 400;spot -27 -27 9;"
                + "spot 27 27 9;spot -28 -28 9;spot 28 28 9;spot 0 0 9;spot 1 2 9;spot 28 99 9;spot -3 -3 9;");
        check.equal("without an open chute", 16, object.reachable());
        object.open(0);
        check.equal("multiples of 3 from -27 to 27", 1 + 2 + 16 + 128, object.reachable());
        object.steer(9);
        check.equal("SLIP as it is does not matter", 1 + 2 + 16 + 128, object.reachable());
    }

    @Sentence(REACHABLE)
    void p31NoneOrAll(Check check) {
        check.equal("without spots", 0, new LayeredChute().reachable());
        check.equal("none of one", 0, Check.made("capsule 60 20 10;spot 1 1 9;").reachable());
        check.equal("all eight", 255, Check.made("capsule 60 20 10;" + "spot 0 0 9;".repeat(8)).reachable());
    }

    @Sentence(FORETELLING)
    void p31UntilTheCapsuleLands(Check check) {
        check.equal("one metre is left behind the first second", 1, Check.made("capsule 31 20 10;spot 0 0 9;").reachable());
        check.equal("it lands in the first second", 1, Check.made("capsule 30 20 10;spot 0 0 9;").reachable());
    }

    @Sentence(REACHABLE)
    void p31HasLanded(Check check) {
        check.equal("at 6", 1, lowAndLanded(2).reachable());
        check.equal("at 24, in no spot", 0, lowAndLanded(8).reachable());
    }

    @Sentence(REACHABLE)
    void p31MoreThan3000(Check check) {
        check.equal("3000", 15, floating(3000).reachable());
        check.equal("3001", 0, floating(3001).reachable());
    }

    @Sentence(FORETELLING)
    void p31ChangesNothing(Check check) {
        changesNothing(check, o -> o.reachable());
    }
}
