/** The edges of promise 4, play, and of scripts (section 5 of the terms). */
final class EdgeScripts {
    private static final String CHUTES = "capsule 30000 100 10;layer 9 2 9999 below 30000 under 400;"
            + "layer 9 2 9999 below 30000 under 400 jammed;reserve 9 3 9999 below 30000 after 1;";

    private static LayeredChute made() {
        return Check.made(CHUTES);
    }

    @Sentence("does its commands one after the other")
    void p04OneAfterTheOther(Check check) {
        LayeredChute object = made();
        check.equal("all are done", "8 0 -1",
                Check.played(object, "open 1;open 0;reserve;steer -7;tick 2;fall 29000;cut 2;cut 0;"));
        LayeredChute twin = made();
        twin.open(1);
        twin.open(0);
        twin.openReserve();
        twin.steer(-7);
        twin.tick(2);
        twin.fallTo(29000);
        twin.cut(2);
        twin.cut(0);
        check.equal("as by these acts", Check.everything(twin), Check.everything(object));
    }

    @Sentence("it stops at the first command that is refused.")
    void p04StopsAtARefusal(Check check) {
        String[] refused = {"fall 30000", "open 1", "reserve", "cut 2"};
        int[] reasons = {2, 3, 3, 8};
        for (int i = 0; i < refused.length; i++) {
            LayeredChute object = made();
            Check.play(object, "open 1;open 0;reserve;cut 2;");
            check.equal("stops at " + refused[i], "2 0 -1", Check.played(object, "tick 1;tick 1;" + refused[i]
                    + ";tick 1;tick 1;"));
            check.equal("the rest is not done: " + refused[i], "2 6", object.capsule(6) + " " + object.account(0));
            check.equal("it is counted: " + refused[i], 1, object.account(reasons[i]));
        }
        LayeredChute object = made();
        check.equal("stops at steer", "0 0 -1", Check.played(object, "steer 1;tick 1;"));
        check.equal("steer is counted", "0 0 0 0 0 0 0 0 1 0", Check.accounts(object));
    }

    @Sentence("it stops at the first command that is refused.")
    void p04StopsWhenItHasLanded(Check check) {
        LayeredChute object = made();
        check.equal("stops at tick", "1 0 -1", Check.played(object, "fall 0;tick 1;tick 1;"));
        check.equal("one refusal", "1 1", object.account(0) + " " + object.account(1));
    }

    @Sentence("The text buffer is empty afterwards, also if there is an error.")
    void p04TheTextIsEmpty(Check check) {
        LayeredChute object = made();
        Check.play(object, "tick 1;");
        check.equal("behind a script", 0, object.append(0, 0, 0, 0, 0));
        Check.play(object, "steer 1;tick 1;");
        check.equal("behind one that stopped", 0, object.append(0, 0, 0, 0, 0));
        Check.play(object, "tick 1;!" + " ".repeat(592));
        check.equal("behind an error in a full text", 0, object.append(0, 0, 0, 0, 0));
    }

    @Sentence("Returns the number of commands that were done; NONE if the text has an error (then nothing else changes but the results of errorCode() and errorPosition()).")
    void p04NumberOfCommands(Check check) {
        check.equal("an empty text", "0 0 -1", Check.played(made(), ""));
        check.equal("blanks", "0 0 -1", Check.played(made(), " \n "));
        check.equal("one", "1 0 -1", Check.played(made(), "tick 1;"));
        check.equal("the first one is refused", "0 0 -1", Check.played(made(), "cut 0;tick 1;"));
        check.equal("the last one is refused", "2 0 -1", Check.played(made(), "tick 1;tick 1;cut 0;"));
        check.equal("40", "40 0 -1", Check.played(made(), "tick 1;".repeat(40)));
    }

    @Sentence("Returns the number of commands that were done; NONE if the text has an error (then nothing else changes but the results of errorCode() and errorPosition()).")
    void p04AnErrorChangesNothingElse(Check check) {
        LayeredChute object = kept();
        check.equal("it answers NONE", "-1 2 19", Check.played(object, "tick 1;steer 1;cut 3;"));
        object.play();
        check.equal("all the rest", Check.everything(kept()), Check.everything(object));
    }

    private static LayeredChute kept() {
        LayeredChute object = StateTest.busy();
        Check.load(object, CHUTES);
        object.tick(1);
        object.save(0);
        object.write();
        object.cut(1);
        return object;
    }

    @Sentence("A script that has an error is not done at all.")
    void p04NotDoneAtAll(Check check) {
        String[] wrong = {"tick 1;open 0;tick", "tick 1;open 2;", "tick 1;!", "tick 1;".repeat(41), "tick 1;tick 201;"};
        for (String text : wrong) {
            LayeredChute object = made();
            check.equal("an error: " + text, -1, Check.play(object, text));
            check.equal("no act, no refusal: " + text, "0 0 0 0 0 0 0 0 0 0", Check.accounts(object));
            check.equal("TIME stays: " + text, 0, object.capsule(6));
        }
    }

    @Sentence("In a script SECONDS is 1 to 200, HEIGHT 0 to 30000, LAYER and CHUTE are numbers of existing layers and chutes.")
    void p04Seconds(Check check) {
        check.equal("0", "-1 2 5", Check.played(made(), "tick 0;"));
        check.equal("1", "1 0 -1", Check.played(made(), "tick 1;"));
        check.equal("200", "1 0 -1", Check.played(made(), "tick 200;"));
        check.equal("201", "-1 2 5", Check.played(made(), "tick 201;"));
        check.equal("a wrap-around", "-1 2 5", Check.played(made(), "tick 4294967297;"));
        check.equal("a minus sign", "-1 1 5", Check.played(made(), "tick -1;"));
    }

    @Sentence("In a script SECONDS is 1 to 200, HEIGHT 0 to 30000, LAYER and CHUTE are numbers of existing layers and chutes.")
    void p04Height(Check check) {
        check.equal("0", "1 0 -1", Check.played(made(), "fall 0;"));
        check.equal("30000 is no error, but refused", "0 0 -1", Check.played(made(), "fall 30000;"));
        check.equal("30001", "-1 2 5", Check.played(made(), "fall 30001;"));
        check.equal("a wrap-around", "-1 2 5", Check.played(made(), "fall 4294967296;"));
        check.equal("a minus sign", "-1 1 5", Check.played(made(), "fall -0;"));
    }

    @Sentence("In a script SECONDS is 1 to 200, HEIGHT 0 to 30000, LAYER and CHUTE are numbers of existing layers and chutes.")
    void p04Layer(Check check) {
        check.equal("the first", "1 0 -1", Check.played(made(), "open 0;"));
        check.equal("the last", "1 0 -1", Check.played(made(), "open 1;"));
        check.equal("the reserve is no layer", "-1 2 5", Check.played(made(), "open 2;"));
        check.equal("there is no layer", "-1 2 5", Check.played(new LayeredChute(), "open 0;"));
        check.equal("a wrap-around", "-1 2 5", Check.played(made(), "open 4294967296;"));
        check.equal("a minus sign", "-1 1 5", Check.played(made(), "open -1;"));
    }

    @Sentence("In a script SECONDS is 1 to 200, HEIGHT 0 to 30000, LAYER and CHUTE are numbers of existing layers and chutes.")
    void p04Chute(Check check) {
        check.equal("the first", "2 0 -1", Check.played(made(), "open 0;cut 0;"));
        check.equal("the reserve, not open", "0 0 -1", Check.played(made(), "cut 2;"));
        check.equal("behind the reserve", "-1 2 4", Check.played(made(), "cut 3;"));
        check.equal("there is no chute", "-1 2 4", Check.played(new LayeredChute(), "cut 0;"));
        LayeredChute without = Check.made("capsule 900 60 10;layer 1 1 1 below 900 under 60;");
        check.equal("there is no reserve", "-1 2 4", Check.played(without, "cut 1;"));
    }

    @Sentence("the number behind it is 0 to 40 of a WIND, 0 to 9999 of an X, 0 to 9 of a SLIP.")
    void p04Slip(Check check) {
        String[] slips = {"0", "-0", "9", "-9", "- 9", "009"};
        int[] due = {0, 0, 9, -9, -9, 9};
        for (int i = 0; i < slips.length; i++) {
            LayeredChute object = made();
            check.equal(slips[i], "2 0 -1", Check.played(object, "open 0;steer" + slips[i] + ";"));
            check.equal("SLIP by " + slips[i], due[i], object.capsule(5));
        }
        check.equal("10", "-1 2 6", Check.played(made(), "steer 10;"));
        check.equal("-10", "-1 2 7", Check.played(made(), "steer -10;"));
        check.equal("a wrap-around", "-1 2 6", Check.played(made(), "steer 4294967296;"));
    }

    @Sentence("Braces mean any number of repetitions (none, too)")
    void p04NoEmptyCommand(Check check) {
        check.equal("a semicolon alone", "-1 1 0", Check.played(made(), ";"));
        check.equal("two semicolons", "-1 1 7", Check.played(made(), "tick 1;;"));
        check.equal("no semicolon between", "-1 1 7", Check.played(made(), "tick 1 tick 1;"));
        check.equal("no semicolon behind", "-1 1 6", Check.played(made(), "tick 1"));
        check.equal("a reserve takes no number", "-1 1 8", Check.played(made(), "reserve 2;"));
        check.equal("a number is due", "-1 1 4", Check.played(made(), "tick;"));
    }

    @Sentence("The commands are done as these acts: \"tick\" as tick(), \"fall\" as fallTo(), \"open\" as open(), \"reserve\" as openReserve(), \"cut\" as cut(), \"steer\" as steer().")
    void p04EachCommandIsAnAct(Check check) {
        LayeredChute object = made();
        Check.play(object, "open 1;open 0;reserve;steer 4;tick 2;fall 29000;cut 0;");
        check.equal("seven acts", "7 7", object.account(0) + " " + object.size(9));
        object.undo();
        check.equal("each can be undone by itself: cut", "131", Check.states(object));
        object.undo();
        check.equal("fall", 2, object.capsule(6));
        object.undo();
        check.equal("tick", 0, object.capsule(6));
        object.undo();
        check.equal("steer", 0, object.capsule(5));
        object.undo();
        check.equal("reserve", "130", Check.states(object));
        object.undo();
        check.equal("open", "030", Check.states(object));
    }

    @Sentence("The commands are done as these acts: \"tick\" as tick(), \"fall\" as fallTo(), \"open\" as open(), \"reserve\" as openReserve(), \"cut\" as cut(), \"steer\" as steer().")
    void p04ReserveWithoutOne(Check check) {
        LayeredChute object = new LayeredChute();
        check.equal("it is no error", "1 0 -1", Check.played(object, "tick 1;reserve;tick 1;"));
        check.equal("it is refused", "1 0 0 1 0 0 0 0 0 0", Check.accounts(object));
    }

    @Sentence("The latest 8 acts that were done can be undone.")
    void p04EightOf40CanBeUndone(Check check) {
        LayeredChute object = made();
        Check.play(object, "tick 1;".repeat(40));
        check.equal("8 acts", 8, object.size(9));
        for (int i = 0; i < 8; i++) {
            object.undo();
        }
        check.equal("TIME is that of 32", 32, object.capsule(6));
    }
}
