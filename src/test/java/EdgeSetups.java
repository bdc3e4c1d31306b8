/** The edges of promise 3, load, and of setups (section 5 of the terms). */
final class EdgeSetups {
    private static final String HEAD = "capsule 900 60 10;";
    private static final String LAYER = "layer 1 2 3 below 4 under 5;";
    private static final String RESERVE = "reserve 1 2 3 below 4 after 5;";

    // ---- what load does

    @Sentence("If it has no error, it replaces everything but the accounts, the output and the saved states")
    void p03ReplacesEverything(Check check) {
        LayeredChute object = StateTest.busy();
        Check.load(object, HEAD + LAYER);
        check.equal("as in a new object", Check.world(Check.made(HEAD + LAYER)), Check.world(object));
        Check.load(object, HEAD);
        check.equal("as in a new object, without anything", Check.world(Check.made(HEAD)), Check.world(object));
    }

    @Sentence("If it has no error, it replaces everything but the accounts, the output and the saved states")
    void p03TheAccountsStay(Check check) {
        LayeredChute object = StateTest.busy();
        object.open(1);
        Check.load(object, HEAD);
        check.equal("7 acts and a refusal", "7 0 0 1 0 0 0 0 0 0", Check.accounts(object));
    }

    @Sentence("If it has no error, it replaces everything but the accounts, the output and the saved states")
    void p03TheOutputStays(Check check) {
        LayeredChute object = StateTest.busy();
        int length = object.write();
        Check.load(object, HEAD);
        check.equal("as it was written", "O4 J O9 C P1 RO5", Check.outputOf(object, length));
    }

    @Sentence("If it has no error, it replaces everything but the accounts, the output and the saved states")
    void p03TheSavedStatesStay(Check check) {
        LayeredChute object = StateTest.busy();
        object.save(0);
        object.tick(1);
        object.save(1);
        Check.load(object, HEAD);
        check.equal("slot 1", 2, object.restore(1));
        object.restore(0);
        check.equal("slot 0", Check.world(StateTest.busy()), Check.world(object));
    }

    @Sentence("TIME is 0, there are no events, and no act can be undone.")
    void p03NothingHasBeenYet(Check check) {
        LayeredChute object = StateTest.busy();
        check.equal("ahead of it", "1 7 7", object.capsule(6) + " " + object.size(8) + " " + object.size(9));
        Check.load(object, HEAD);
        check.equal("behind it", "0 0 0", object.capsule(6) + " " + object.size(8) + " " + object.size(9));
        check.equal("no event", "NoSuchElementException", Check.outcome(o -> o.event(0, 0), object));
        check.equal("no act to undo", "IllegalStateException", Check.outcome(o -> o.undo(), object));
    }

    @Sentence("The text buffer is empty afterwards, also if there is an error.")
    void p03TheTextIsEmpty(Check check) {
        LayeredChute object = new LayeredChute();
        Check.load(object, HEAD);
        check.equal("behind a setup", 0, object.append(0, 0, 0, 0, 0));
        Check.load(object, "capsule !" + " ".repeat(591));
        check.equal("behind an error in a full text", 0, object.append(0, 0, 0, 0, 0));
        check.equal("the next text is read by itself", "0 0", Check.load(object, HEAD) + " " + object.errorCode());
    }

    @Sentence("The text buffer is empty afterwards, also if there is an error.")
    void p03WhatStoodThereDoesNotMatter(Check check) {
        for (String earlier : new String[] {"l", "9", " ", ";", "-"}) {
            LayeredChute object = new LayeredChute();
            Check.load(object, earlier.repeat(600));
            check.equal("a word at the end, behind " + earlier, "-1 1 22", Check.load(object, HEAD + "cool") + " "
                    + object.errorCode() + " " + object.errorPosition());
            Check.load(object, earlier.repeat(600));
            check.equal("a number at the end, behind " + earlier, "-1 1 24", Check.load(object, HEAD + "cool 9") + " "
                    + object.errorCode() + " " + object.errorPosition());
        }
    }

    @Sentence("Returns the number of chutes; NONE if the text has an error (then nothing else changes but the results of errorCode() and errorPosition()).")
    void p03NumberOfChutes(Check check) {
        check.equal("none", "0 0 -1", Check.loaded(HEAD));
        check.equal("a layer", "1 0 -1", Check.loaded(HEAD + LAYER));
        check.equal("a reserve", "1 0 -1", Check.loaded(HEAD + RESERVE));
        check.equal("8 layers and a reserve", "9 0 -1", Check.loaded(HEAD + LAYER.repeat(8) + RESERVE));
    }

    @Sentence("Returns the number of chutes; NONE if the text has an error (then nothing else changes but the results of errorCode() and errorPosition()).")
    void p03AnErrorChangesNothingElse(Check check) {
        String[] wrong = {"", "capsule 1 2 3;" + LAYER + RESERVE + "cool 3;wind 5 5;target 5 5;spot 1 2 3;cool 100;",
            "capsule 1 2 3;" + LAYER.repeat(9), "capsule 1 2 3"};
        for (String text : wrong) {
            LayeredChute object = kept();
            check.equal("it answers NONE: " + text, -1, Check.load(object, text));
            check.equal("the code: " + text, true, object.errorCode() > 0);
            // A text without error sets code and position back, so that all the rest can be compared.
            object.play();
            check.equal("all the rest: " + text, Check.everything(kept()), Check.everything(object));
        }
    }

    /** With acts to undo, a saved state, an output and a text buffer that is empty. */
    private static LayeredChute kept() {
        LayeredChute object = StateTest.busy();
        object.save(1);
        object.write();
        object.open(1);
        return object;
    }

    // ---- tokens

    @Sentence("Spaces (byte 32) and line feeds (byte 10) may stand ahead of tokens, between them and behind the last one")
    void p03BlanksMayStand(Check check) {
        check.equal("ahead", "0 0 -1", Check.loaded(" \n\n " + HEAD));
        check.equal("between", "0 0 -1", Check.loaded("capsule\n 900 \n60\n\n10 \n ;"));
        check.equal("behind", "0 0 -1", Check.loaded(HEAD + " \n \n"));
        check.equal("behind a minus sign", "0 0 -1", Check.loaded(HEAD + "wind 5 - \n 5;"));
        for (int other : new int[] {1, 9, 11, 13, 31, 33, 128, 160, 255}) {
            check.equal("byte " + other, "-1 1 7", Check.loaded("capsule" + (char) other + "900 60 10;"));
        }
    }

    @Sentence("they are needed only between two numbers and between two words")
    void p03BlanksAreNeeded(Check check) {
        check.equal("nowhere else", "2 0 -1", Check.loaded("capsule900 60 10;layer1 2 3below4under5jammed;"
                + "reserve1 2 3below4after5;target9 9;wind9-9;spot-9-9 9;cool9;"));
        check.equal("between two numbers", "-1 1 13", Check.loaded("capsule 9 010;"));
        check.equal("between two words", "-1 1 46", Check.loaded(HEAD + "layer 1 2 3 below 4 under 5 jammedjammed;"));
        check.equal("a word is not parted by one", "-1 1 18", Check.loaded(HEAD + "co ol 5;"));
        check.equal("a number is not parted by one", "-1 1 26", Check.loaded(HEAD + "cool 5  5;"));
    }

    @Sentence("words (maximal runs of the letters a to z)")
    void p03WordsAreMaximalRuns(Check check) {
        check.equal("too long a word", "-1 1 18", Check.loaded(HEAD + "cools 5;"));
        check.equal("too short a word", "-1 1 18", Check.loaded(HEAD + "coo 5;"));
        check.equal("from a", "-1 1 18", Check.loaded(HEAD + "coola 5;"));
        check.equal("to z", "-1 1 18", Check.loaded(HEAD + "coolz 5;"));
        check.equal("ahead of a", "-1 1 22", Check.loaded(HEAD + "cool`5;"));
        check.equal("behind z", "-1 1 22", Check.loaded(HEAD + "cool{5;"));
        check.equal("no capital letters", "-1 1 22", Check.loaded(HEAD + "coolL 5;"));
    }

    @Sentence("numbers (maximal runs of the digits 0 to 9)")
    void p03NumbersAreMaximalRuns(Check check) {
        check.equal("0 to 9", "0 0 -1", Check.loaded("capsule 09 90 09;"));
        check.equal("a digit more", "-1 2 8", Check.loaded("capsule 300000 60 10;"));
        check.equal("ahead of 0", "-1 1 9", Check.loaded("capsule 9/ 60 10;"));
        check.equal("behind 9", "-1 1 9", Check.loaded("capsule 9: 60 10;"));
    }

    @Sentence("Numbers may have any number of digits.")
    void p03AnyNumberOfDigits(Check check) {
        LayeredChute object = Check.made("capsule " + "0".repeat(500) + "900 00 010;");
        check.equal("leading zeros", "900 0 0 10 0 0 0 98 0", Check.capsule(object));
        check.equal("all of them count", "-1 2 8", Check.loaded("capsule " + "1" + "0".repeat(500) + " 60 10;"));
        check.equal("a multiple of 2 to the 32", "-1 2 8", Check.loaded("capsule 4294967296900 60 10;"));
        check.equal("2 to the 32 and 900", "-1 2 8", Check.loaded("capsule 4294968196 60 10;"));
        check.equal("2 to the 64 and 900", "-1 2 8", Check.loaded("capsule 18446744073709552516 60 10;"));
    }

    // ---- the grammar

    @Sentence("Braces mean any number of repetitions (none, too)")
    void p03NoStatement(Check check) {
        check.equal("none", "0 0 -1", Check.loaded(HEAD));
        check.equal("but the semicolon is due", "-1 1 17", Check.loaded("capsule 900 60 10"));
        check.equal("no empty statement", "-1 1 18", Check.loaded(HEAD + ";"));
        check.equal("as many as there is room for", "0 0 -1", Check.loaded(HEAD + "cool5;".repeat(97)));
    }

    @Sentence("brackets mean that a part can be left out")
    void p03JammedCanBeLeftOut(Check check) {
        LayeredChute object = Check.made(HEAD + "layer 1 2 3 below 4 under 5 jammed;" + LAYER);
        check.equal("told, left out", "1 0", object.chute(0, 7) + " " + object.chute(1, 7));
        check.equal("not twice", "-1 1 53", Check.loaded(HEAD + "layer 1 2 3 below 4 under 5 jammed jammed;"));
        check.equal("not of a reserve", "-1 1 48", Check.loaded(HEAD + "reserve 1 2 3 below 4 after 5 jammed;"));
    }

    @Sentence("\"signed\" means that there can be a minus sign ahead of the number")
    void p03Signed(Check check) {
        LayeredChute object = Check.made(HEAD + "wind 1 5;wind 2 -5;wind 3 -0;spot -3 -2 9;spot -3 2 9;spot 2 3 9;");
        check.equal("winds", "5 -5 0", object.windAt(1) + " " + object.windAt(2) + " " + object.windAt(3));
        check.equal("spots", "-3 -2 9, -3 2 9, 2 3 9", Check.spot(object, 0) + ", " + Check.spot(object, 1) + ", "
                + Check.spot(object, 2));
        check.equal("two minus signs", "-1 1 26", Check.loaded(HEAD + "wind 9 --5;"));
        check.equal("a minus sign alone", "-1 1 26", Check.loaded(HEAD + "wind 9 -;"));
    }

    @Sentence("\"signed\" means that there can be a minus sign ahead of the number")
    void p03NotSigned(Check check) {
        String[] ahead = {"capsule ", "capsule 1 ", "capsule 1 1 ", HEAD + "layer ", HEAD + "layer 1 ",
            HEAD + "layer 1 1 ", HEAD + "layer 1 1 1 below ", HEAD + "layer 1 1 1 below 1 under ",
            HEAD + "reserve 1 1 1 below 1 after ", HEAD + "target ", HEAD + "target 1 ", HEAD + "wind ",
            HEAD + "spot 1 1 ", HEAD + "cool "};
        for (String text : ahead) {
            check.equal(text + "-", "-1 1 " + text.length(), Check.loaded(text + "-1 1 1;"));
        }
    }

    @Sentence("Layers and spots get their numbers in the order in which they are told.")
    void p03InTheOrderTold(Check check) {
        LayeredChute object = Check.made(HEAD + "spot 5 5 5;layer 7 2 3 below 4 under 5;spot 3 3 3;" + RESERVE
                + "spot 9 9 9;layer 6 2 3 below 4 under 5;");
        check.equal("layers", "7 6", object.chute(0, 0) + " " + object.chute(1, 0));
        check.equal("spots", "5 3 9", object.spot(0, 0) + " " + object.spot(1, 0) + " " + object.spot(2, 0));
    }

    @Sentence("Chutes are the layers and, if there is one, the reserve, whose number is the number of layers.")
    void p03TheReserveComesLast(Check check) {
        LayeredChute object = Check.made(HEAD + "reserve 9 2 3 below 4 after 8;" + LAYER + LAYER);
        check.equal("behind two layers", "9 2 3 4 8 0 2 0", Check.chute(object, 2));
        check.equal("without layers", 9, Check.made(HEAD + "reserve 9 2 3 below 4 after 8;").chute(0, 0));
        check.equal("behind 8 layers", 9, Check.made(HEAD + LAYER.repeat(4) + "reserve 9 2 3 below 4 after 8;"
                + LAYER.repeat(4)).chute(8, 0));
        check.equal("there is no other", "IndexOutOfBoundsException", Check.outcome(o -> o.chute(3, 0), object));
    }

    // ---- ranges

    /** The text with the least and the greatest number, and with one less and one more. */
    private static void range(Check check, int chutes, String ahead, int least, int most, String behind) {
        String right = chutes + " 0 -1";
        String wrong = "-1 2 " + ahead.length();
        check.equal(ahead + "the least", right, Check.loaded(ahead + least + behind));
        check.equal(ahead + "the greatest", right, Check.loaded(ahead + most + behind));
        check.equal(ahead + "too large", wrong, Check.loaded(ahead + (most + 1) + behind));
        check.equal(ahead + "far too large", wrong, Check.loaded(ahead + (4294967296L + least) + behind));
        if (least > 0) {
            check.equal(ahead + "too small", wrong, Check.loaded(ahead + (least - 1) + behind));
        }
    }

    @Sentence("In a setup the HEIGHT of the capsule is 1 to 30000, its SPEED 0 to 400")
    void p03HeightAndSpeed(Check check) {
        range(check, 0, "capsule ", 1, 30000, " 60 10;");
        range(check, 0, "capsule 900 ", 0, 400, " 10;");
    }

    @Sentence("a MASS (1 to 99)")
    void p03Mass(Check check) {
        range(check, 0, "capsule 900 60 ", 1, 99, ";");
    }

    @Sentence("COOL is 0 to 99.")
    void p03Cool(Check check) {
        range(check, 0, HEAD + "cool ", 0, 99, ";");
    }

    @Sentence("A chute has an AREA (1 to 99), LINES (1 to 12) and a CEILING (1 to 30000); a layer also has a MOST (1 to 400)")
    void p03Layer(Check check) {
        range(check, 1, HEAD + "layer ", 1, 99, " 2 3 below 4 under 5;");
        range(check, 1, HEAD + "layer 1 ", 1, 12, " 3 below 4 under 5;");
        range(check, 1, HEAD + "layer 1 2 3 below ", 1, 30000, " under 5;");
        range(check, 1, HEAD + "layer 1 2 3 below 4 under ", 1, 400, ";");
    }

    @Sentence("A chute has an AREA (1 to 99), LINES (1 to 12) and a CEILING (1 to 30000); a layer also has a MOST (1 to 400)")
    void p03Reserve(Check check) {
        range(check, 1, HEAD + "reserve ", 1, 99, " 2 3 below 4 after 5;");
        range(check, 1, HEAD + "reserve 1 ", 1, 12, " 3 below 4 after 5;");
        range(check, 1, HEAD + "reserve 1 2 3 below ", 1, 30000, " after 5;");
    }

    @Sentence("STRENGTH is 1 to 9999.")
    void p03Strength(Check check) {
        range(check, 1, HEAD + "layer 1 2 ", 1, 9999, " below 4 under 5;");
        range(check, 1, HEAD + "reserve 1 2 ", 1, 9999, " below 4 after 5;");
    }

    @Sentence("FAILS is 1 to 8")
    void p03Fails(Check check) {
        range(check, 1, HEAD + "reserve 1 2 3 below 4 after ", 1, 8, ";");
    }

    @Sentence("the HEIGHT of a target is 1 to 30000, its SPEED 1 to 400")
    void p03Target(Check check) {
        range(check, 0, HEAD + "target ", 1, 30000, " 9;");
        range(check, 0, HEAD + "target 9 ", 1, 400, ";");
    }

    @Sentence("the HEIGHT of a wind is 0 to 30000")
    void p03HeightOfAWind(Check check) {
        range(check, 0, HEAD + "wind ", 0, 30000, " 9;");
    }

    @Sentence("the number behind it is 0 to 40 of a WIND, 0 to 9999 of an X, 0 to 9 of a SLIP.")
    void p03WindAndX(Check check) {
        range(check, 0, HEAD + "wind 9 ", 0, 40, ";");
        range(check, 0, HEAD + "wind 9 -", 0, 40, ";");
        range(check, 0, HEAD + "spot ", 0, 9999, " 9999 9;");
        range(check, 0, HEAD + "spot -", 0, 9999, " 9999 9;");
        range(check, 0, HEAD + "spot -9999 ", 0, 9999, " 9;");
        range(check, 0, HEAD + "spot -9999 -", 0, 9999, " 9;");
    }

    @Sentence("with a SAFE (1 to 99).")
    void p03Safe(Check check) {
        range(check, 0, HEAD + "spot 1 2 ", 1, 99, ";");
    }

    @Sentence("The second X of a spot is not less than the first one.")
    void p03SecondX(Check check) {
        check.equal("the same", "0 0 -1", Check.loaded(HEAD + "spot 4 4 9;"));
        check.equal("one less", "-1 3 25", Check.loaded(HEAD + "spot 4 3 9;"));
        check.equal("the same, negative", "0 0 -1", Check.loaded(HEAD + "spot -4 -4 9;"));
        check.equal("one less, negative", "-1 3 27", Check.loaded(HEAD + "spot -4 -5 9;"));
        check.equal("0 and minus 0", "0 0 -1", Check.loaded(HEAD + "spot 0 -0 9;spot -0 0 9;"));
    }

    @Sentence("COOL is 20 if it is not told; it may be told several times, the last time counts.")
    void p03CoolIsNotTold(Check check) {
        LayeredChute object = Check.made(HEAD + "cool 7;");
        Check.load(object, HEAD);
        check.equal("20, also behind a setup that told it", 20, object.size(5));
    }

    @Sentence("COOL is 20 if it is not told; it may be told several times, the last time counts.")
    void p03CoolIsToldSeveralTimes(Check check) {
        check.equal("the last time", 99, Check.made(HEAD + "cool 0;" + LAYER + "cool 7;cool 99;").size(5));
        check.equal("0", 0, Check.made(HEAD + "cool 7;cool 0;").size(5));
        check.equal("each of them is looked at", "-1 2 30", Check.loaded(HEAD + "cool 7;cool 100;cool 7;"));
    }

    // ---- at most

    @Sentence("There are at most 8 layers, numbered from 0, and perhaps a reserve.")
    void p03AtMost8Layers(Check check) {
        check.equal("8", 8, Check.made(HEAD + LAYER.repeat(8)).size(0));
        check.equal("9", "-1 4 242", Check.loaded(HEAD + LAYER.repeat(9)));
        check.equal("a 9th one behind a reserve", "-1 4 272", Check.loaded(HEAD + RESERVE + LAYER.repeat(9)));
    }

    @Sentence("There are at most 8 layers, numbered from 0, and perhaps a reserve.")
    void p03AtMostOneReserve(Check check) {
        check.equal("none", 0, Check.made(HEAD + LAYER).size(1));
        check.equal("one", 1, Check.made(HEAD + LAYER + RESERVE).size(1));
        check.equal("two", "-1 3 76", Check.loaded(HEAD + LAYER + RESERVE + RESERVE));
    }

    @Sentence("There are at most 8 targets, each with a height and a speed, at most 8 winds, each with a height and a wind (-40 to 40), no two targets and no two winds of the same height, and at most 8 spots, numbered from 0, each from one X to another one (both belong to it)")
    void p03AtMost8TargetsWindsAndSpots(Check check) {
        StringBuilder text = new StringBuilder(HEAD);
        for (int i = 1; i <= 8; i++) {
            text.append("target ").append(i).append(" 5;wind ").append(i).append(" 5;spot 1 1 1;");
        }
        LayeredChute object = Check.made(text.toString());
        check.equal("8 of each", "8 8 8", object.size(2) + " " + object.size(3) + " " + object.size(4));
        for (String more : new String[] {"target 9 5;", "wind 9 5;", "spot 1 1 1;"}) {
            check.equal("one more: " + more, "-1 4 " + text.length(), Check.loaded(text + more));
        }
    }

    @Sentence("no two targets and no two winds of the same height")
    void p03NoTwoOfTheSameHeight(Check check) {
        check.equal("two targets", "-1 3 36", Check.loaded(HEAD + "target 9 5;target 9 5;"));
        check.equal("two winds", "-1 3 32", Check.loaded(HEAD + "wind 9 5;wind 9 5;"));
        check.equal("the first and the eighth", "-1 3 102", Check.loaded(HEAD + "target 1 5;target 2 5;target 3 5;"
                + "target 4 5;target 5 5;target 6 5;target 7 5;target 1 5;"));
        check.equal("written in another way", "-1 3 36", Check.loaded(HEAD + "target 9 5;target 009 5;"));
    }

    // ---- at first

    @Sentence("an X (0 at first)")
    void p03XAtFirst(Check check) {
        LayeredChute object = drifted();
        check.equal("ahead of the setup", 5, object.capsule(2));
        Check.load(object, HEAD);
        check.equal("behind it", 0, object.capsule(2));
    }

    @Sentence("a HEAT (0 to 999; 0 at first) and a SLIP (-9 to 9; 0 at first). TIME is 0 at first, in seconds.")
    void p03HeatSlipAndTimeAtFirst(Check check) {
        LayeredChute object = drifted();
        check.equal("ahead of the setup", "true 5 1", (object.capsule(4) > 0) + " " + object.capsule(5) + " "
                + object.capsule(6));
        Check.load(object, HEAD);
        check.equal("behind it", "0 0 0", object.capsule(4) + " " + object.capsule(5) + " " + object.capsule(6));
    }

    private static LayeredChute drifted() {
        LayeredChute object = Check.made("capsule 12000 400 99;layer 1 1 9999 below 30000 under 400;");
        object.open(0);
        object.steer(5);
        object.tick(1);
        return object;
    }

    @Sentence("A chute is packed (state 0, at first)")
    void p03PackedAtFirst(Check check) {
        String chutes = HEAD + "layer 1 2 3 below 900 under 60;reserve 1 2 3 below 900 after 1;";
        LayeredChute object = Check.made(chutes.replace("60;", "60 jammed;"));
        object.open(0);
        object.openReserve();
        check.equal("ahead of the setup", "31", Check.states(object));
        Check.load(object, chutes);
        check.equal("behind it", "00", Check.states(object));
        check.equal("and not jammed", 0, object.chute(0, 7));
    }

    @Sentence("A line is there or torn (there at first).")
    void p03LinesAreThereAtFirst(Check check) {
        String layer = "layer 99 4 1 below 390 under 400;";
        LayeredChute object = Check.made("capsule 390 20 10;" + layer);
        object.open(0);
        object.tick(1);
        check.equal("ahead of the setup", "-1 -1 -1 -1", Check.lines(object, 0));
        Check.load(object, HEAD + layer);
        check.equal("behind it", "1 4 7 10", Check.lines(object, 0));
    }
}
