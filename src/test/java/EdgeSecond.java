/**
 * The edges of a second (section 2 of the terms), which promise 32, tick, lets pass; and of the events that it
 * makes. AIR is 100 below 400 metres; without chutes SPEED 20 becomes 30 at a MASS of 10.
 */
final class EdgeSecond {
    private static LayeredChute opened(String setup) {
        LayeredChute object = Check.made(setup);
        for (int layer = 0; layer < object.size(0); layer++) {
            object.open(layer);
        }
        return object;
    }

    private static LayeredChute ticked(String setup) {
        LayeredChute object = Check.made(setup);
        object.tick(1);
        return object;
    }

    private static LayeredChute openedAndTicked(String setup) {
        LayeredChute object = opened(setup);
        object.tick(1);
        return object;
    }

    // ---- (1) what opens

    @Sentence("(1) If the capsule asks for brakes, the first layer that may open opens.")
    void p32S1FirstLayerOpens(Check check) {
        String layer = "layer 10 4 9999 below 390 under 20;";
        LayeredChute object = ticked("capsule 390 20 10;target 390 19;" + layer.repeat(3));
        check.equal("only the first", "100", Check.states(object));
        check.equal("its event", "0 0 0 20", Check.events(object));
        check.equal("it brakes at once", 26, object.capsule(1));
    }

    @Sentence("(1) If the capsule asks for brakes, the first layer that may open opens.")
    void p32S1OnlyIfItAsks(Check check) {
        String layer = "layer 10 4 9999 below 390 under 20;";
        check.equal("SPEED is one above", "1", Check.states(ticked("capsule 390 20 10;target 390 19;" + layer)));
        check.equal("SPEED is the target", "0", Check.states(ticked("capsule 390 20 10;target 390 20;" + layer)));
        check.equal("the target is one below HEIGHT", "0", Check.states(ticked("capsule 390 20 10;target 389 1;" + layer)));
        check.equal("without targets", "0", Check.states(ticked("capsule 390 20 10;" + layer)));
    }

    @Sentence("A layer may open (a jammed one, too) if it is packed, HEIGHT is at most its CEILING, and SPEED is at most its MOST.")
    void p32S1MayOpen(Check check) {
        String[] layers = {"below 390 under 20", "below 389 under 20", "below 390 under 19", "below 390 under 20 jammed"};
        String[] due = {"10", "01", "01", "30"};
        for (int i = 0; i < layers.length; i++) {
            check.equal(layers[i], due[i], Check.states(ticked("capsule 390 20 10;target 390 1;layer 1 1 99 " + layers[i]
                    + ";layer 1 1 99 below 390 under 20;")));
        }
        LayeredChute object = Check.made("capsule 390 20 10;target 390 1;"
                + "layer 1 1 99 below 390 under 20;".repeat(2));
        object.open(0);
        object.tick(1);
        check.equal("the first is not packed", "11", Check.states(object));
    }

    @Sentence("When a layer opens that is jammed, it fails (state 3) instead, and is all that opens then.")
    void p32S1AJammedLayerIsAll(Check check) {
        LayeredChute object = ticked("capsule 390 20 10;target 390 1;layer 10 4 9999 below 390 under 400 jammed;"
                + "layer 10 4 9999 below 390 under 400;reserve 10 4 9999 below 390 after 1;");
        check.equal("it fails alone", "300", Check.states(object));
        check.equal("its event", "0 3 0 20", Check.events(object));
        check.equal("it does not brake, nor does it drift", "360 30 0", object.capsule(0) + " " + object.capsule(1) + " "
                + object.capsule(2));
        object.tick(1);
        check.equal("the next second", "310", Check.states(object));
    }

    @Sentence("If there is none such, the reserve opens if it may.")
    void p32S1TheReserveOpens(Check check) {
        LayeredChute object = failed(1, "reserve 10 4 9999 below 390 after 1;");
        object.tick(1);
        check.equal("it opens", "31", Check.states(object));
        check.equal("its event tells the failed layers", "0 4 1 1", Check.event(object, 1));
        check.equal("it brakes at once", 26, object.capsule(1));
        object = failed(8, "reserve 10 4 9999 below 390 after 8;");
        object.tick(1);
        check.equal("eight have failed", "333333331 0 4 8 8", Check.states(object) + " " + Check.event(object, 8));
    }

    @Sentence("The reserve may open if it is packed, HEIGHT is at most its CEILING, at least FAILS layers have failed, and no layer may open.")
    void p32S1TheReserveMayNotOpen(Check check) {
        String[] more = {"reserve 1 1 9 below 389 after 1;", "reserve 1 1 9 below 390 after 2;",
            "reserve 1 1 9 below 390 after 1;layer 1 1 9 below 390 under 20;",
            "reserve 1 1 9 below 390 after 1;layer 1 1 9 below 389 under 20;",
            "reserve 1 1 9 below 390 after 1;layer 1 1 9 below 390 under 19;"};
        String[] due = {"30", "30", "310", "301", "301"};
        for (int i = 0; i < more.length; i++) {
            LayeredChute object = failed(1, more[i]);
            object.tick(1);
            check.equal(more[i], due[i], Check.states(object));
        }
        LayeredChute object = failed(1, "reserve 1 1 9 below 390 after 1;");
        object.openReserve();
        object.cut(1);
        object.tick(1);
        check.equal("it is not packed", "34", Check.states(object));
        object = failed(1, "reserve 1 1 9 below 390 after 1;");
        object.setTarget(390, 20);
        object.tick(1);
        check.equal("not asked for", "30", Check.states(object));
    }

    /** Brakes are asked for, and so many layers have failed by hand. */
    private static LayeredChute failed(int layers, String more) {
        LayeredChute object = Check.made("capsule 390 20 10;target 390 19;"
                + "layer 1 1 9 below 390 under 400 jammed;".repeat(layers) + more);
        for (int layer = 0; layer < layers; layer++) {
            object.open(layer);
        }
        return object;
    }

    // ---- (2) what tears

    @Sentence("A line holds if its strength times (1000 less HEAT), / 1000, is not less than LOAD.")
    void p32S2JustHolds(Check check) {
        check.equal("the strength is LOAD", "1 1", torn("10 1 40", 20));
        check.equal("one less", "2 0", torn("10 1 39", 20));
        check.equal("the last line holds as long as its strength is LOAD", "1 4", torn("10 4 10", 20));
        check.equal("no PULL", "1 1", torn("99 1 1", 0));
        check.equal("PULL 1, cut, on a line of 1", "1 1", torn("1 1 1", 14));
        check.equal("PULL 2 on a line of 1", "2 0", torn("1 1 1", 15));
    }

    @Sentence("A line holds if its strength times (1000 less HEAT), / 1000, is not less than LOAD.")
    void p32S2HeatWeakens(Check check) {
        // HEAT 140 behind the first second, LOAD 1407; 1637 * 860 / 1000 is 1407, of 1636 it is 1406.
        String setup = "capsule 1199 400 99;cool 0;layer 1 1 1637 below 1199 under 400;"
                + "layer 1 1 1636 below 1199 under 400;";
        LayeredChute object = ticked(setup);
        object.open(0);
        object.open(1);
        check.equal("HEAT and LOAD", "140 1407", object.capsule(4) + " " + object.loadOn(0));
        object.tick(1);
        check.equal("HEAT ahead of the second counts", "12", Check.states(object));
    }

    @Sentence("A line holds if its strength times (1000 less HEAT), / 1000, is not less than LOAD.")
    void p32S2HeatAtItsGreatest(Check check) {
        LayeredChute object = Check.made("capsule 30000 400 99;cool 0;layer 1 12 9999 below 30000 under 400;"
                + "layer 1 1 9999 below 30000 under 400;");
        object.tick(30);
        check.equal("HEAT", 999, object.capsule(4));
        check.equal("SPEED is below MOST", true, object.capsule(1) <= 400);
        object.open(0);
        object.open(1);
        check.equal("strengths of 9 to 10 are left", "12 1", object.wouldTear(0) + " " + object.wouldTear(1));
        object.tick(1);
        check.equal("all of them tear", "22", Check.states(object));
    }

    @Sentence("divided by the number of its lines that are there, and rounded up.")
    void p32S2RoundedUp(Check check) {
        check.equal("40 on 3 lines is 14, not 13", "2 0", torn("10 3 13", 20));
        check.equal("40 on 3 lines is 14", "1 3", torn("10 3 14", 20));
        check.equal("40 on 4 lines is 10, not 11", "1 4", torn("10 4 10", 20));
    }

    @Sentence("LOAD is the quotient PULL * (100 + 5 * the absolute value of SLIP) / 100")
    void p32S2SlipWeighs(Check check) {
        int[] slips = {0, 9, -9, 1, -1};
        int[] due = {1, 2, 2, 2, 2};
        for (int i = 0; i < slips.length; i++) {
            LayeredChute object = opened("capsule 390 20 10;layer 10 1 40 below 390 under 400;");
            object.steer(slips[i]);
            object.tick(1);
            check.equal("PULL 40 with SLIP " + slips[i], due[i], object.chute(0, 5));
        }
        LayeredChute object = opened("capsule 390 20 10;layer 10 1 58 below 390 under 400;");
        object.steer(-9);
        object.tick(1);
        check.equal("40 becomes 58", "1 26", object.chute(0, 5) + " " + object.capsule(1));
        object = opened("capsule 390 65 10;layer 1 1 44 below 390 under 400;");
        object.steer(1);
        object.tick(1);
        check.equal("42 becomes 44, cut", 1, object.chute(0, 5));
    }

    @Sentence("All lines that do not hold tear at once; then LOAD is reckoned anew with the lines that are left, and so on, until all hold or none is left.")
    void p32S2TearAnew(Check check) {
        check.equal("72 on 12: 3 tear in two rounds", "1 9", torn("18 12 1", 20));
        check.equal("40 on 4: all tear in three rounds", "2 0", torn("10 4 9", 20));
        check.equal("all at once", "2 0", torn("99 12 1", 20));
        check.equal("none", "1 12", torn("18 12 6", 20));
    }

    @Sentence("All lines that do not hold tear at once; then LOAD is reckoned anew with the lines that are left, and so on, until all hold or none is left.")
    void p32S2WhatToreIsGone(Check check) {
        LayeredChute object = openedAndTicked("capsule 390 20 10;layer 18 12 1 below 390 under 400;");
        check.equal("SPEED 22", 22, object.capsule(1));
        object.tick(2);
        // PULL 87 on 9 lines is 10, and 10 holds; then 95 on 9 is 11, so 10 tears; 95 on 8 is 12, and 13 holds.
        check.equal("one more behind two seconds", "8 2 1 0 1", object.chute(0, 6) + " " + Check.event(object, 2));
    }

    @Sentence("If none is left, the chute fails (state 2).")
    void p32S2NoneIsLeft(Check check) {
        LayeredChute object = openedAndTicked("capsule 390 20 10;layer 10 1 39 below 390 under 400;");
        check.equal("of one line", "2 0 1", object.chute(0, 5) + " " + object.size(6) + " " + object.size(7));
        object = failed(1, "reserve 99 12 1 below 390 after 1;");
        object.tick(1);
        check.equal("the reserve, in the second in which it opens", "32", Check.states(object));
        check.equal("its events", "0 4 1 1, 0 1 1 12, 0 2 1 99", Check.event(object, 1) + ", " + Check.event(object, 2)
                + ", " + Check.event(object, 3));
    }

    /** The state of a chute, and how many of its lines are there, behind a second. */
    private static String torn(String chute, int speed) {
        LayeredChute object = openedAndTicked("capsule 390 " + speed + " 10;layer " + chute + " below 390 under 400;");
        return object.chute(0, 5) + " " + object.chute(0, 6);
    }

    // ---- (3) brakes

    @Sentence("BRAKE is the sum of the PULLs of all chutes that are still open")
    void p32S3StillOpen(Check check) {
        String good = "layer 10 4 9999 below 390 under 400;";
        String bad = "layer 99 4 1 below 390 under 400;";
        check.equal("one", 26, openedAndTicked("capsule 390 20 10;" + good).capsule(1));
        check.equal("two", 22, openedAndTicked("capsule 390 20 10;" + good + good).capsule(1));
        check.equal("one that tears", 30, openedAndTicked("capsule 390 20 10;" + bad).capsule(1));
        check.equal("one that tears adds nothing to 8, at MASS 9", 30, openedAndTicked("capsule 390 20 9;" + bad).capsule(1));
        check.equal("one and one that tears", 26, openedAndTicked("capsule 390 20 10;" + bad + good).capsule(1));
        check.equal("one of which lines tear pulls as a whole", 22,
                openedAndTicked("capsule 390 20 10;layer 18 12 1 below 390 under 400;").capsule(1));
        LayeredChute object = opened("capsule 390 20 10;" + good);
        object.cut(0);
        object.tick(1);
        check.equal("cut away", 30, object.capsule(1));
        check.equal("packed", 30, ticked("capsule 390 20 10;" + good).capsule(1));
    }

    @Sentence("Divisions round toward 0.")
    void p32S3QuotientsAreCut(Check check) {
        check.equal("BRAKE 8 / MASS 8", 29, ticked("capsule 390 20 8;").capsule(1));
        check.equal("BRAKE 8 / MASS 9", 30, ticked("capsule 390 20 9;").capsule(1));
        check.equal("BRAKE 8 / MASS 99", 30, ticked("capsule 390 20 99;").capsule(1));
        check.equal("BRAKE 492.98 / MASS 17", 139, ticked("capsule 390 157 17;").capsule(1));
        check.equal("each PULL by itself: 2 and 2 and 4 / MASS 8", 24,
                openedAndTicked("capsule 390 15 8;" + "layer 1 1 99 below 390 under 400;".repeat(2)).capsule(1));
        check.equal("each PULL by itself: 8 / MASS 9", 25,
                openedAndTicked("capsule 390 15 9;" + "layer 1 1 99 below 390 under 400;".repeat(2)).capsule(1));
    }

    @Sentence("SPEED becomes the greatest of these three: SPEED + 10 less (BRAKE / MASS); SPEED / 2; 1.")
    void p32S3AtLeastHalf(Check check) {
        String layer = "layer 99 4 9999 below 390 under 400;";
        check.equal("half", 10, openedAndTicked("capsule 390 20 1;" + layer).capsule(1));
        check.equal("half, cut", 10, openedAndTicked("capsule 390 21 1;" + layer).capsule(1));
        check.equal("half of 2 is 1", 1, openedAndTicked("capsule 390 2 1;" + layer.repeat(8)).capsule(1));
        check.equal("from 0", 10, openedAndTicked("capsule 390 0 1;" + layer).capsule(1));
        check.equal("from 1", 11, openedAndTicked("capsule 390 1 1;" + layer.repeat(8)).capsule(1));
        String[] areas = {"2", "3", "4"};
        int[] due = {14, 10, 10};
        for (int i = 0; i < areas.length; i++) {
            check.equal("BRAKE is 8 and 4 times AREA " + areas[i], due[i], openedAndTicked("capsule 390 20 1;layer "
                    + areas[i] + " 1 99 below 390 under 400;").capsule(1));
        }
    }

    // ---- (4) heat

    @Sentence("HEAT becomes HEAT + GAIN less COOL, but at least 0 and at most 999.")
    void p32S4AtLeast0(Check check) {
        LayeredChute object = Check.made("capsule 12000 400 99;cool 99;");
        int[] due = {6, 7, 4, 0, 0};
        for (int second = 0; second < due.length; second++) {
            object.tick(1);
            check.equal("HEAT behind " + (second + 1), due[second], object.capsule(4));
        }
        check.equal("at first", 0, ticked("capsule 390 20 10;").capsule(4));
    }

    @Sentence("HEAT becomes HEAT + GAIN less COOL, but at least 0 and at most 999.")
    void p32S4AtMost999(Check check) {
        LayeredChute object = Check.made("capsule 30000 400 99;cool 0;");
        int due = 0;
        for (int second = 0; second < 40; second++) {
            int air = object.capsule(7);
            object.tick(1);
            due = Math.min(999, due + object.capsule(1) * object.capsule(1) * air / 100000);
            check.equal("HEAT behind " + (second + 1), due, object.capsule(4));
        }
        check.equal("at its bound", 999, due);
    }

    @Sentence("GAIN is SPEED * SPEED * AIR / 100000, with the SPEED that (3) made.")
    void p32S4Gain(Check check) {
        // SPEED 400 becomes 388; AIR is 70 ahead of the second and 71 behind it.
        check.equal("388 * 388 * 70", "388 105", two(ticked("capsule 12000 400 99;"), 1, 15));
        check.equal("just 10", "100 10", two(ticked("capsule 390 95 36;"), 1, 15));
        check.equal("cut", "99 9", two(ticked("capsule 390 93 36;"), 1, 15));
        check.equal("127 * 127 * 93 is 3 less than 1500000", "127 14", two(ticked("capsule 2800 254 1;"), 1, 15));
    }

    private static String two(LayeredChute object, int capsule, int size) {
        return object.capsule(capsule) + " " + object.size(size);
    }

    // ---- (5) drift

    @Sentence("(5) If a chute is open then, X changes by the wind at HEIGHT and SLIP, added.")
    void p32S5OpenThen(Check check) {
        String winds = "wind 0 5;";
        check.equal("open", 5, openedAndTicked("capsule 390 20 10;" + winds + "layer 1 1 99 below 390 under 400;").capsule(2));
        check.equal("it opens in this second", 5, ticked("capsule 390 20 10;target 390 1;" + winds
                + "layer 1 1 99 below 390 under 400;").capsule(2));
        check.equal("it tears in this second", 0, openedAndTicked("capsule 390 20 10;" + winds
                + "layer 99 1 1 below 390 under 400;").capsule(2));
        check.equal("packed", 0, ticked("capsule 390 20 10;" + winds + "layer 1 1 99 below 390 under 400;").capsule(2));
        check.equal("two drift once", 5, openedAndTicked("capsule 390 20 10;" + winds
                + "layer 1 1 99 below 390 under 400;".repeat(2)).capsule(2));
        LayeredChute object = opened("capsule 390 20 10;" + winds + "layer 1 1 99 below 390 under 400;");
        object.steer(9);
        object.cut(0);
        object.tick(1);
        check.equal("cut away", 0, object.capsule(2));
        object = failed(1, "reserve 1 1 99 below 390 after 1;" + winds);
        object.tick(1);
        check.equal("the reserve", 5, object.capsule(2));
    }

    @Sentence("(5) If a chute is open then, X changes by the wind at HEIGHT and SLIP, added.")
    void p32S5WindAtHeightAheadOfFalling(Check check) {
        String layer = "layer 10 1 99 below 390 under 400;";
        // SPEED 26: HEIGHT becomes 364.
        check.equal("at HEIGHT", 7, openedAndTicked("capsule 390 20 10;wind 390 7;wind 364 -9;" + layer).capsule(2));
        check.equal("just below it", -9, openedAndTicked("capsule 390 20 10;wind 391 7;wind 389 -9;" + layer).capsule(2));
        check.equal("none so low", 0, openedAndTicked("capsule 390 20 10;wind 391 7;" + layer).capsule(2));
        check.equal("the greatest one to either side", "40 -40",
                openedAndTicked("capsule 390 20 10;wind 0 40;" + layer).capsule(2) + " "
                + openedAndTicked("capsule 390 20 10;wind 0 -40;" + layer).capsule(2));
        LayeredChute object = opened("capsule 390 20 10;wind 0 -40;" + layer);
        object.steer(-9);
        object.tick(1);
        check.equal("with SLIP", -49, object.capsule(2));
        object.steer(9);
        object.tick(1);
        check.equal("against SLIP", -80, object.capsule(2));
    }

    // ---- (6) falling and landing

    @Sentence("(6) HEIGHT becomes less by SPEED, but not less than 0. TIME becomes one more.")
    void p32S6NotLessThan0(Check check) {
        check.equal("one metre more", "1 30 1", heightSpeedAndTime("capsule 31 20 10;"));
        check.equal("just so", "0 30 1", heightSpeedAndTime("capsule 30 20 10;"));
        check.equal("less", "0 30 1", heightSpeedAndTime("capsule 29 20 10;"));
        check.equal("far less", "0 30 1", heightSpeedAndTime("capsule 1 20 10;"));
    }

    private static String heightSpeedAndTime(String setup) {
        LayeredChute object = ticked(setup);
        return object.capsule(0) + " " + object.capsule(1) + " " + object.capsule(6);
    }

    @Sentence("AIR is that at HEIGHT ahead of the second:")
    void p32AirAheadOfTheSecond(Check check) {
        // BRAKE is 2 * 99 * 6400 / 10000 = 126 at 400 metres, and 128 below them.
        check.equal("AIR 99", "311 89 1", heightSpeedAndTime("capsule 400 80 64;"));
        check.equal("AIR 100", "311 88 1", heightSpeedAndTime("capsule 399 80 64;"));
    }

    @Sentence("6 the capsule landed (the result; the last event of its second).")
    void p32LandingIsTheLastEvent(Check check) {
        LayeredChute object = openedAndTicked("capsule 20 20 10;layer 10 1 1 below 390 under 400;spot 0 0 30;");
        check.equal("behind lines that tear", "0 0 0 20, 0 1 0 1, 0 2 0 10, 0 6 -1 1", Check.events(object));
        check.equal("no landing", "", Check.events(ticked("capsule 31 20 10;")));
        object.tick(1);
        check.equal("it lands but once", 4, object.size(8));
    }

    @Sentence("6 the capsule landed (the result; the last event of its second).")
    void p32LandingTellsTheResult(Check check) {
        check.equal("1", "0 6 -1 1", Check.events(ticked("capsule 30 20 10;spot 0 0 30;")));
        check.equal("2", "0 6 -1 2", Check.events(ticked("capsule 30 20 10;spot 0 0 29;")));
        check.equal("3", "0 6 -1 3", Check.events(ticked("capsule 30 20 10;spot 1 1 99;")));
        LayeredChute object = openedAndTicked("capsule 26 20 10;layer 10 4 9999 below 390 under 400;wind 0 -6;"
                + "spot -6 -6 26;");
        check.equal("with X and SPEED behind the second", "0 6 -1 1", Check.event(object, 1));
    }

    @Sentence("0 a layer opened (SPEED then); 1 lines of a chute tore (how many, all of one second together); 2 a chute failed because all its lines tore (its AREA; behind the event 1 of it)")
    void p32EventsOfTearing(Check check) {
        check.equal("in two rounds, told once", "0 0 0 20, 0 1 0 3",
                Check.events(openedAndTicked("capsule 390 20 10;layer 18 12 1 below 390 under 400;")));
        check.equal("in three rounds, told once", "0 0 0 20, 0 1 0 4, 0 2 0 10",
                Check.events(openedAndTicked("capsule 390 20 10;layer 10 4 9 below 390 under 400;")));
        check.equal("none tears, nothing is told", "0 0 0 20",
                Check.events(openedAndTicked("capsule 390 20 10;layer 10 4 10 below 390 under 400;")));
    }

    @Sentence("(2) For each open chute, by ascending numbers:")
    void p32ByAscendingNumbers(Check check) {
        LayeredChute object = failed(1, "layer 99 1 1 below 390 under 400;layer 18 12 1 below 390 under 400;"
                + "reserve 99 2 1 below 390 after 1;");
        object.open(2);
        object.open(1);
        object.openReserve();
        object.tick(1);
        check.equal("events", "0 3 0 20, 0 0 2 20, 0 0 1 20, 0 4 3 1, 0 1 1 1, 0 2 1 99, 0 1 2 3, 0 1 3 2, 0 2 3 99",
                Check.events(object));
    }
}
