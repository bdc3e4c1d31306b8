import java.util.function.UnaryOperator;

/** The edges of promises 1, 2, 5 and 6: a new object, the text buffer, error codes and error positions. */
final class EdgeTexts {
    private static final String HEAD = "capsule 900 60 10;";
    private static final String RESERVE = "reserve 1 2 3 below 4 after 5;";
    private static final int BLANKS = 0x20202020;

    // ---- promise 1

    @Sentence("Creates a capsule as by the setup \"capsule 3000 100 10;\"")
    void p01AsByTheSetup(Check check) {
        check.equal("the capsule", "3000 100 0 10 0 0 0 93 0", Check.capsule(new LayeredChute()));
        check.equal("what there is", "0 0 0 0 0 20 0 0 0 0 0 0 0 0 0 0", Check.sizes(new LayeredChute()));
        check.equal("everything", Check.everything(Check.made("capsule 3000 100 10;")),
                Check.everything(new LayeredChute()));
    }

    @Sentence("with an empty text buffer")
    void p01EmptyText(Check check) {
        check.equal("its length", 0, new LayeredChute().append(0, 0, 0, 0, 0));
        check.equal("it ends too early for a setup", "-1 1 0", Check.loaded(""));
        check.equal("it is a script without commands", "0 0 -1", Check.played(new LayeredChute(), ""));
    }

    @Sentence("an empty output and no saved states")
    void p01EmptyOutput(Check check) {
        check.equal("no first byte", "IndexOutOfBoundsException",
                Check.outcome(o -> o.output(0), new LayeredChute()));
    }

    @Sentence("an empty output and no saved states")
    void p01NoSavedStates(Check check) {
        check.equal("slot 0", "IllegalStateException", Check.outcome(o -> o.restore(0), new LayeredChute()));
        check.equal("slot 1", "IllegalStateException", Check.outcome(o -> o.restore(1), new LayeredChute()));
    }

    @Sentence("An object is used for at most 512 calls after it has been made")
    void p01The512thCall(Check check) {
        LayeredChute object = new LayeredChute();
        for (int call = 1; call <= 510; call++) {
            object.setTarget(1 + call % 8, 1 + call % 400);
        }
        check.equal("call 511", 510, object.account(0));
        check.equal("call 512", 111, object.targetAt(7));
    }

    // ---- promise 2

    @Sentence("Appends up to 20 bytes to the text buffer")
    void p02UpTo20Bytes(Check check) {
        check.equal("none", 0, new LayeredChute().append(0, 0, 0, 0, 0));
        check.equal("one", 1, new LayeredChute().append(0, 0, 0, 0, 1));
        check.equal("20", 20, new LayeredChute().append(BLANKS, BLANKS, BLANKS, BLANKS, BLANKS));
    }

    @Sentence("the four bytes of each parameter, the most significant byte first")
    void p02MostSignificantByteFirst(Check check) {
        LayeredChute object = new LayeredChute();
        // "caps" "ule " "123 " "45 6" "7 ; "
        object.append(0x63617073, 0x756c6520, 0x31323320, 0x34352036, 0x37203b20);
        check.equal("the setup is read", 0, object.load());
        check.equal("in the order of the bytes", "123 45 0 67 0 0 0 100 0", Check.capsule(object));
    }

    @Sentence("the four bytes of each parameter, the most significant byte first")
    void p02BytesOfNegativeParameters(Check check) {
        check.equal("20 bytes of 255", 20, new LayeredChute().append(-1, -1, -1, -1, -1));
        check.equal("a byte of 128", 1, new LayeredChute().append(Integer.MIN_VALUE, 0, 0, 0, 0));
        LayeredChute object = new LayeredChute();
        object.append(0x20ff2020, 0, 0, 0, 0);
        check.equal("it belongs to no token", "-1 1 1", object.load() + " " + object.errorCode() + " "
                + object.errorPosition());
    }

    @Sentence("bytes that are 0 are left out")
    void p02ZerosAreLeftOut(Check check) {
        for (int place = 0; place < 20; place++) {
            int[] alone = new int[5];
            int[] without = {BLANKS, BLANKS, BLANKS, BLANKS, BLANKS};
            alone[place / 4] = 0x20 << 24 - place % 4 * 8;
            without[place / 4] -= alone[place / 4];
            check.equal("only the byte in place " + place, 1,
                    new LayeredChute().append(alone[0], alone[1], alone[2], alone[3], alone[4]));
            check.equal("all but the byte in place " + place, 19,
                    new LayeredChute().append(without[0], without[1], without[2], without[3], without[4]));
        }
    }

    @Sentence("bytes that are 0 are left out")
    void p02ZerosDoNotPartTokens(Check check) {
        LayeredChute object = new LayeredChute();
        object.append(0x63000061, 0x00007000, 0x00730075, 0x6c006500, 0x20390020);
        object.append(0x38002037, 0x0000003b, 0, 0, 0);
        check.equal("capsule 9 8 7;", "0 9 8", object.load() + " " + object.capsule(0) + " " + object.capsule(1));
    }

    @Sentence("Returns the length of the text.")
    void p02LengthGrows(Check check) {
        LayeredChute object = new LayeredChute();
        check.equal("three", 3, object.append(0x41000041, 0, 0, 0x41, 0));
        check.equal("and none", 3, object.append(0, 0, 0, 0, 0));
        check.equal("and 20", 23, object.append(-1, -1, -1, -1, -1));
        object.load();
        check.equal("from 0 again", 1, object.append(0, 0, 1, 0, 0));
    }

    @Sentence("Both are ASCII texts that are collected in a text buffer of at most 600 bytes.")
    void p02JustFull(Check check) {
        check.equal("600 at once", 600, filledTo(580).append(BLANKS, BLANKS, BLANKS, BLANKS, BLANKS));
        check.equal("the 600th byte", 600, filledTo(599).append(0, 0, 0x00200000, 0, 0));
        check.equal("nothing more", 600, filledTo(600).append(0, 0, 0, 0, 0));
    }

    @Sentence("Both are ASCII texts that are collected in a text buffer of at most 600 bytes.")
    void p02AFullTextIsRead(Check check) {
        check.equal("to its last byte", "0 0 -1", Check.loaded(HEAD + " ".repeat(600 - HEAD.length() - 7) + "cool 5;"));
        check.equal("a full one that ends too early", "-1 1 600",
                Check.loaded(HEAD + " ".repeat(600 - HEAD.length() - 6) + "cool 5"));
    }

    @Sentence("Throws `IllegalStateException` if the text would be longer than 600 bytes")
    void p02LongerThan600(Check check) {
        for (int place = 0; place < 5; place++) {
            int[] parts = new int[5];
            parts[place] = 1;
            check.equal("one byte, parameter " + place, "IllegalStateException",
                    Check.outcome(o -> o.append(parts[0], parts[1], parts[2], parts[3], parts[4]), filledTo(600)));
        }
        check.equal("20 bytes to 581", "IllegalStateException",
                Check.outcome(o -> o.append(-1, -1, -1, -1, -1), filledTo(581)));
        check.equal("two bytes to 599", "IllegalStateException",
                Check.outcome(o -> o.append(0x20000000, 0, 0, 0, 0x20), filledTo(599)));
    }

    @Sentence("A method that throws an exception changes nothing.")
    void p02ARefusedAppendTakesNothing(Check check) {
        LayeredChute object = filledTo(599);
        Check.outcome(o -> o.append(0x31310000, 0, 0, 0, 0), object);
        check.equal("the length stays", 599, object.append(0, 0, 0, 0, 0));
        check.equal("another byte fits", 600, object.append(0x3b, 0, 0, 0, 0));
        check.equal("it is the one that is read", "-1 1 599", object.load() + " " + object.errorCode() + " "
                + object.errorPosition());
        check.thrown("everything stays", IllegalStateException.class, () -> filledTo(590),
                o -> o.append(-1, -1, -1, -1, -1));
    }

    private static LayeredChute filledTo(int length) {
        LayeredChute object = new LayeredChute();
        Check.append(object, " ".repeat(length));
        return object;
    }

    // ---- promise 5

    @Sentence("Returns the error code of the latest load() or play(); 0 if its text had no error, or if there was no such call.")
    void p05NoSuchCall(Check check) {
        LayeredChute object = new LayeredChute();
        check.equal("a new object", 0, object.errorCode());
        object.tick(1);
        object.write();
        check.equal("behind other calls", 0, object.errorCode());
    }

    @Sentence("Returns the error code of the latest load() or play(); 0 if its text had no error, or if there was no such call.")
    void p05OfTheLatest(Check check) {
        LayeredChute object = new LayeredChute();
        Check.load(object, "capsule 0 1 1;");
        check.equal("a load", 2, object.errorCode());
        Check.play(object, "wait;");
        check.equal("then a play", 1, object.errorCode());
        Check.load(object, HEAD + "spot 2 1 9;");
        check.equal("then a load again", 3, object.errorCode());
    }

    @Sentence("Returns the error code of the latest load() or play(); 0 if its text had no error, or if there was no such call.")
    void p05NoErrorAnyMore(Check check) {
        LayeredChute object = new LayeredChute();
        Check.load(object, "capsule 0 1 1;");
        Check.play(object, "tick 1;");
        check.equal("a play without error", 0, object.errorCode());
        Check.play(object, "tick 0;");
        Check.load(object, HEAD);
        check.equal("a load without error", 0, object.errorCode());
        Check.play(object, "tick 0;");
        Check.play(object, "steer 1;");
        check.equal("a command that is refused is no error", 0, object.errorCode());
    }

    @Sentence("1: the token is not allowed there, a byte belongs to no token, or the text ends too early.")
    void p05Code1(Check check) {
        check.equal("not allowed", "-1 1 18", Check.loaded(HEAD + "tick 1;"));
        check.equal("no token", "-1 1 18", Check.loaded(HEAD + "Cool 5;"));
        check.equal("too early", "-1 1 17", Check.loaded("capsule 900 60 10"));
    }

    @Sentence("1: the token is not allowed there, a byte belongs to no token, or the text ends too early.")
    void p05ATokenIsLeftOut(Check check) {
        leaveOut(check, SETUP, Check::loaded);
        leaveOut(check, SCRIPT, text -> Check.played(chutes(), text));
    }

    @Sentence("1: the token is not allowed there, a byte belongs to no token, or the text ends too early.")
    void p05AnotherTokenStandsThere(Check check) {
        replace(check, SETUP, Check::loaded);
        replace(check, SCRIPT, text -> Check.played(chutes(), text));
    }

    private static final String SETUP = "capsule 900 60 10 ; layer 1 2 3 below 4 under 5 jammed ; reserve 1 2 3 below 4"
            + " after 5 ; target 9 5 ; wind 9 - 5 ; spot - 1 2 3 ; cool 5 ;";
    private static final String SCRIPT = "tick 1 ; fall 9 ; open 0 ; reserve ; cut 0 ; steer - 5 ;";

    private static LayeredChute chutes() {
        return Check.made("capsule 900 60 10;layer 1 2 3 below 4 under 5;reserve 1 2 3 below 4 after 5;");
    }

    /** The place of each token; and, behind the last one, where the text ends. */
    private static int[] places(String[] tokens) {
        int[] places = new int[tokens.length + 1];
        for (int i = 0; i < tokens.length; i++) {
            places[i + 1] = places[i] + tokens[i].length() + (i + 1 < tokens.length ? 1 : 0);
        }
        return places;
    }

    /** The next token that is no number is the first wrong one, since the numbers there fit each other's ranges. */
    private static void leaveOut(Check check, String text, UnaryOperator<String> read) {
        String[] tokens = text.split(" ");
        for (int i = 0; i < tokens.length; i++) {
            boolean canBeLeftOut = tokens[i].equals("jammed") || tokens[i].equals("-");
            int wrong = i + 1;
            boolean isNumber = Character.isDigit(tokens[i].charAt(0));
            while (isNumber && Character.isDigit(tokens[wrong].charAt(0))) {
                wrong++;
            }
            String[] left = new String[tokens.length - 1];
            System.arraycopy(tokens, 0, left, 0, i);
            System.arraycopy(tokens, i + 1, left, i, left.length - i);
            int place = places(left)[wrong - 1];
            String answer = read.apply(String.join(" ", left));
            check.equal("without token " + i + ", " + tokens[i], canBeLeftOut ? "0 -1" : "1 " + place,
                    answer.substring(answer.indexOf(' ') + 1));
        }
    }

    private static void replace(Check check, String text, UnaryOperator<String> read) {
        String[] tokens = text.split(" ");
        for (int i = 0; i < tokens.length; i++) {
            for (String other : othersOf(tokens[i])) {
                String[] changed = tokens.clone();
                changed[i] = other;
                check.equal(other + " for token " + i + ", " + tokens[i], "-1 1 " + places(changed)[i],
                        read.apply(String.join(" ", changed)));
            }
        }
    }

    private static String[] othersOf(String token) {
        char first = token.charAt(0);
        if (token.equals("jammed")) {
            return new String[] {"xammed", "jammedx", "1", "-", "!"};
        }
        if (first >= 'a' && first <= 'z') {
            return new String[] {"x" + token.substring(1), token + "x", "1", "-", ";", "!"};
        }
        return first == ';' ? new String[] {"x", "1", "-", "!"} : new String[] {"x", ";", "!"};
    }

    @Sentence("2: a number out of its range.")
    void p05Code2(Check check) {
        check.equal("too small", "-1 2 8", Check.loaded("capsule 0 60 10;"));
        check.equal("too large", "-1 2 8", Check.loaded("capsule 30001 60 10;"));
        check.equal("too large for an int", "-1 2 8", Check.loaded("capsule 4294967297 60 10;"));
        check.equal("too large for a long", "-1 2 8", Check.loaded("capsule 18446744073709551617 60 10;"));
        check.equal("a wrap-around digit by digit", "-1 2 12", Check.loaded("capsule 900 " + "9".repeat(200) + " 10;"));
    }

    @Sentence("3: the word \"reserve\" of a second reserve; the HEIGHT of a target, or of a wind, if there is one with it already; the number of the second X of a spot if this is less than the first one.")
    void p05Code3(Check check) {
        check.equal("a second reserve", "-1 3 48", Check.loaded(HEAD + RESERVE + RESERVE));
        check.equal("a target", "-1 3 36", Check.loaded(HEAD + "target 9 5;target 9 6;"));
        check.equal("a wind", "-1 3 32", Check.loaded(HEAD + "wind 0 5;wind 0 6;"));
        check.equal("a spot", "-1 3 25", Check.loaded(HEAD + "spot 5 4 9;"));
        check.equal("a spot, behind the minus sign", "-1 3 26", Check.loaded(HEAD + "spot 0 -1 9;"));
    }

    @Sentence("3: the word \"reserve\" of a second reserve; the HEIGHT of a target, or of a wind, if there is one with it already; the number of the second X of a spot if this is less than the first one.")
    void p05Code3IsNotTold(Check check) {
        check.equal("one reserve", "1 0 -1", Check.loaded(HEAD + RESERVE));
        check.equal("other heights", "0 0 -1", Check.loaded(HEAD + "target 9 5;target 8 5;target 10 5;"));
        check.equal("a wind and a target of the same height", "0 0 -1", Check.loaded(HEAD + "wind 9 5;target 9 5;"));
        check.equal("the same X twice", "0 0 -1", Check.loaded(HEAD + "spot 5 5 9;spot -5 -5 9;"));
    }

    @Sentence("4: the first word of a 9th layer, target, wind or spot; the first word of a 41st command.")
    void p05Code4(Check check) {
        check.equal("a layer", "-1 4 242", Check.loaded(HEAD + "layer 1 2 3 below 4 under 5;".repeat(8) + "layer"));
        check.equal("a target", "-1 4 106", Check.loaded(HEAD + eight("target ") + "target 9 5;"));
        check.equal("a target with a height that there is", "-1 4 106", Check.loaded(HEAD + eight("target ") + "target 8 5;"));
        check.equal("a wind", "-1 4 90", Check.loaded(HEAD + eight("wind ") + "wind 0 5;"));
        check.equal("a spot", "-1 4 106", Check.loaded(HEAD + "spot 1 2 3;".repeat(8) + "spot 2 1 3;"));
        check.equal("a command", "-1 4 280", Check.played(new LayeredChute(), "tick 1;".repeat(40) + "tick 0;"));
    }

    @Sentence("4: the first word of a 9th layer, target, wind or spot; the first word of a 41st command.")
    void p05Code4IsNotTold(Check check) {
        check.equal("8 layers", "8 0 -1", Check.loaded(HEAD + "layer 1 2 3 below 4 under 5;".repeat(8)));
        check.equal("a reserve beside 8 layers", "9 0 -1",
                Check.loaded(HEAD + "layer 1 2 3 below 4 under 5;".repeat(8) + RESERVE));
        check.equal("8 targets and 8 winds", "0 0 -1", Check.loaded(HEAD + eight("target ") + eight("wind ")));
        check.equal("8 spots", "0 0 -1", Check.loaded(HEAD + "spot 1 2 3;".repeat(8)));
        check.equal("40 commands", "40 0 -1", Check.played(new LayeredChute(), "tick 1;".repeat(40)));
    }

    private static String eight(String ahead) {
        StringBuilder text = new StringBuilder();
        for (int i = 1; i <= 8; i++) {
            text.append(ahead).append(i).append(" 5;");
        }
        return text.toString();
    }

    @Sentence("The error code is the least one of these that applies to that token:")
    void p05TheLeastCode(Check check) {
        check.equal("out of range, and less than the first X", "-1 2 26", Check.loaded(HEAD + "spot 5 -10000 9;"));
        check.equal("not allowed, where a 41st command would be", "-1 1 280",
                Check.played(new LayeredChute(), "tick 1;".repeat(40) + ";"));
        check.equal("no command's word, where a 41st command would be", "-1 1 280",
                Check.played(new LayeredChute(), "tick 1;".repeat(40) + "layer"));
        check.equal("a reserve that is the 41st command", "-1 4 280",
                Check.played(new LayeredChute(), "tick 1;".repeat(40) + "reserve;"));
    }

    // ---- promise 6

    @Sentence("Returns the error position of the latest load() or play(); NONE if its text had no error, or if there was no such call.")
    void p06NoSuchCall(Check check) {
        LayeredChute object = new LayeredChute();
        check.equal("a new object", LayeredChute.NONE, object.errorPosition());
        object.tick(1);
        check.equal("behind other calls", LayeredChute.NONE, object.errorPosition());
    }

    @Sentence("Returns the error position of the latest load() or play(); NONE if its text had no error, or if there was no such call.")
    void p06OfTheLatest(Check check) {
        LayeredChute object = new LayeredChute();
        Check.load(object, "capsule 0 1 1;");
        check.equal("a load", 8, object.errorPosition());
        Check.play(object, "tick 1;wait;");
        check.equal("then a play", 7, object.errorPosition());
        Check.play(object, "steer 1;");
        check.equal("then one without error", LayeredChute.NONE, object.errorPosition());
        Check.play(object, "wait");
        Check.load(object, HEAD);
        check.equal("then a load without error", LayeredChute.NONE, object.errorPosition());
    }

    @Sentence("The error position is the index of its first byte, or the length of the text if the text ends too early.")
    void p06FirstByte(Check check) {
        check.equal("the very first", "-1 1 0", Check.loaded("Capsule"));
        check.equal("of a word", "-1 1 20", Check.loaded(HEAD + "  tickle"));
        check.equal("of a number with many digits", "-1 2 8", Check.loaded("capsule 00000030001 1 1;"));
        check.equal("of a minus sign", "-1 1 9", Check.loaded("capsule  -1 1 1;"));
        check.equal("of a number behind a minus sign", "-1 2 27", Check.loaded(HEAD + "wind 5 - 41;"));
        check.equal("of a semicolon", "-1 1 11", Check.loaded("capsule 900;"));
    }

    @Sentence("The error position is the index of its first byte, or the length of the text if the text ends too early.")
    void p06TextEndsTooEarly(Check check) {
        check.equal("empty", "-1 1 0", Check.loaded(""));
        check.equal("blanks", "-1 1 3", Check.loaded(" \n "));
        check.equal("behind a word", "-1 1 7", Check.loaded("capsule"));
        check.equal("behind blanks, too", "-1 1 10", Check.loaded("capsule  \n"));
        check.equal("behind a number", "-1 1 17", Check.loaded("capsule 900 60 10"));
        check.equal("behind a minus sign", "-1 1 26", Check.loaded(HEAD + "wind 9 -"));
        check.equal("a script", "-1 1 8", Check.played(new LayeredChute(), "tick 1\n "));
    }

    @Sentence("The text is read from the first token on, up to the first token that is wrong.")
    void p06TheFirstWrongToken(Check check) {
        check.equal("two numbers out of range", "-1 2 8", Check.loaded("capsule 0 401 0;"));
        check.equal("a byte of no token behind it", "-1 2 8", Check.loaded("capsule 0 ! 0;"));
        check.equal("a byte of no token ahead of it", "-1 1 8", Check.loaded("capsule ! 0 0;"));
        check.equal("a 9th spot ahead of its wrong numbers", "-1 4 106",
                Check.loaded(HEAD + "spot 1 2 3;".repeat(8) + "spot 10000 1 3;"));
        check.equal("a 41st command behind a wrong one", "-1 2 5",
                Check.played(new LayeredChute(), "tick 0;" + "tick 1;".repeat(40)));
    }
}
