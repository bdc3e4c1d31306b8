/** Promises 1 to 6: a new object, append, load, play, errorCode, errorPosition; section 5. */
public class TextsTest {
    private static final String HEAD = "capsule 900 60 10;";
    private static final String LAYER = "layer 1 2 3 below 4 under 5;";

    private final Check check = new Check("TextsTest");

    public static void main(String[] arguments) {
        TextsTest test = new TextsTest();
        test.newObject();
        test.append();
        test.loadReplaces();
        test.loadWithError();
        test.setupHeads();
        test.setupRanges();
        test.setupStatements();
        test.setupOnceOnly();
        test.setupTooMany();
        test.tokens();
        test.play();
        test.playStops();
        test.playWithError();
        test.scriptRanges();
        test.scriptTooLong();
        test.errorsAreOfTheLatest();
        test.check.end();
    }

    private void newObject() {
        LayeredChute fresh = new LayeredChute();
        check.equal("P1 the capsule", "3000 100 0 0 0", Check.fall(fresh));
        check.equal("P1 MASS", 10, fresh.capsule(3));
        check.equal("P1 COOL", 20, fresh.size(5));
        check.equal("P1 is as by the setup", Check.everything(Check.made("capsule 3000 100 10;")),
                Check.everything(new LayeredChute()));
        check.equal("P1 the text is empty", 0, fresh.append(0, 0, 0, 0, 0));
        check.equal("P1 the output is empty", "IndexOutOfBoundsException", Check.outcome(o -> o.output(0), fresh));
        check.equal("P1 nothing is saved in 0", "IllegalStateException", Check.outcome(o -> o.restore(0), fresh));
        check.equal("P1 nothing is saved in 1", "IllegalStateException", Check.outcome(o -> o.restore(1), fresh));
        check.equal("P1 nothing can be undone", "IllegalStateException", Check.outcome(o -> o.undo(), fresh));
        check.equal("P5 no call yet", 0, fresh.errorCode());
        check.equal("P6 no call yet", LayeredChute.NONE, fresh.errorPosition());
    }

    private void append() {
        LayeredChute object = new LayeredChute();
        check.equal("P2 nothing but zeros", 0, object.append(0, 0, 0, 0, 0));
        // "capsule 9 8 7;" with zeros strewn in: the most significant byte comes first.
        check.equal("P2 zeros are left out", 8, object.append(0x63610070, 0, 0x00737500, 0x6c006520, 0));
        check.equal("P2 goes on behind", 14, object.append(0x39203820, 0x373b0000, 0, 0, 0));
        check.equal("P2 the text is read", 0, object.load());
        check.equal("P2 in its order", "9 8 0 0 0", Check.fall(object));

        int sign = 0x80ff7f01;
        for (int i = 1; i <= 29; i++) {
            check.equal("P2 twenty bytes", 20 * i, object.append(sign, sign, sign, sign, sign));
        }
        check.equal("P2 nineteen bytes", 599, object.append(sign, sign, sign, sign, 0x00202020));
        check.equal("P2 two are too many for one place", "IllegalStateException",
                Check.outcome(o -> o.append(0x20000000, 0, 0, 0, 0x20), object));
        check.equal("P2 nothing of them was taken", 599, object.append(0, 0, 0, 0, 0));
        check.equal("P2 the 600th byte", 600, object.append(0, 0, 0x00200000, 0, 0));
        check.equal("P2 zeros fit always", 600, object.append(0, 0, 0, 0, 0));
        check.thrown("P2 a 601st byte", IllegalStateException.class, TextsTest::full,
                o -> o.append(0, 0, 0, 0, 1));
        check.equal("P2 the text is read behind a refusal, too", "-1 1 0", answerOf(object));
        appendInEachPlace();
    }

    private void appendInEachPlace() {
        int[] counts = {4, 3, 2, 1};
        int[] parts = {0x20202020, 0x00202020, 0x20000020, 0x00200000};
        for (int place = 0; place < 5; place++) {
            for (int i = 0; i < parts.length; i++) {
                int[] packed = new int[5];
                packed[place] = parts[i];
                LayeredChute fits = filledTo(600 - counts[i]);
                check.equal("P2 fits in place " + place, 600,
                        fits.append(packed[0], packed[1], packed[2], packed[3], packed[4]));
                LayeredChute object = filledTo(601 - counts[i]);
                check.equal("P2 one too many in place " + place, "IllegalStateException", Check.outcome(
                        o -> o.append(packed[0], packed[1], packed[2], packed[3], packed[4]), object));
                check.equal("P2 none is taken", 601 - counts[i], object.append(0, 0, 0, 0, 0));
            }
        }
    }

    private static LayeredChute filledTo(int length) {
        LayeredChute object = new LayeredChute();
        Check.append(object, " ".repeat(length));
        return object;
    }

    private static LayeredChute full() {
        LayeredChute object = Check.made(HEAD + LAYER);
        for (int i = 0; i < 30; i++) {
            object.append(-1, -1, -1, -1, -1);
        }
        return object;
    }

    private static String answerOf(LayeredChute object) {
        return object.load() + " " + object.errorCode() + " " + object.errorPosition();
    }

    private void loadReplaces() {
        LayeredChute object = Check.made("capsule 3000 100 10;layer 9 2 900 below 3000 under 400;reserve 1 1 1 below 9"
                + " after 1;target 9 9;wind 9 9;spot 1 2 3;cool 7;");
        object.open(0);
        object.steer(5);
        object.tick(3);
        object.save(0);
        object.openReserve();
        check.equal("P40 some output", "O2 RP1", Check.written(object));
        check.equal("P3 the number of chutes", 2, Check.load(object, HEAD + LAYER + LAYER));
        check.equal("P3 everything is new", Check.world(Check.made(HEAD + LAYER + LAYER)), Check.world(object));
        check.equal("P3 no act can be undone", 0, object.size(9));
        check.equal("P3 the accounts stay", "3 1", object.account(0) + " " + object.account(4));
        check.equal("P3 the output stays", "O2 RP1", Check.outputOf(object, 6));
        check.equal("P3 the text is empty afterwards", 0, object.append(0, 0, 0, 0, 0));
        check.equal("P3 the saved states stay", 3, object.restore(0));
        check.equal("P3 the saved state is the old one", 5, object.capsule(5));
        check.equal("P3 the reserve counts as a chute", 1,
                Check.load(object, HEAD + "reserve 1 2 3 below 4 after 5;"));
        check.equal("P3 no chute", 0, Check.load(object, HEAD));
        check.equal("P3 all nine", 9, Check.load(object, HEAD + LAYER.repeat(4) + "reserve 1 2 3 below 4 after 5;"
                + LAYER.repeat(4)));
        check.equal("P3 layers come first", "3 8", object.chute(7, 2) + " " + (object.size(0)));
        check.equal("P3 the reserve comes last", 5, object.chute(8, 4));
    }

    private void loadWithError() {
        LayeredChute object = Check.made(HEAD + LAYER + "target 7 8;");
        object.tick(2);
        object.save(1);
        object.tick(1);
        Check.written(object);
        String world = Check.world(object);
        check.equal("P3 an error", -1, Check.load(object, "capsule 1 1 1;layer 9 9 9 below 9 under 9;cool 3;wind"));
        check.equal("P3 an error changes nothing", world, Check.world(object));
        check.equal("P3 the acts can still be undone", 2, object.size(9));
        check.equal("P3 the text is empty behind an error", 0, object.append(0, 0, 0, 0, 0));
        check.equal("P5 the code", 1, object.errorCode());
        check.equal("P6 the position", 53, object.errorPosition());
        check.equal("P3 undo works still", 1, object.undo());
        check.equal("P3 the saved state is there still", 2, object.restore(1));
    }

    /** Loads the text into an object and tells the answer, the code and the position. */
    private void setup(String due, String text) {
        check.equal("setup " + text.replace("\n", "\\n"), due, Check.loaded(text));
    }

    private void right(int chutes, String text) {
        setup(chutes + " 0 -1", text);
    }

    private void wrong(int code, int position, String text) {
        setup("-1 " + code + " " + position, text);
    }

    private void range(int chutes, String ahead, long least, long most, String behind) {
        right(chutes, ahead + least + behind);
        right(chutes, ahead + most + behind);
        if (least > 0) {
            wrong(2, ahead.length(), ahead + (least - 1) + behind);
        }
        wrong(2, ahead.length(), ahead + (most + 1) + behind);
        wrong(2, ahead.length(), ahead + "4294967297" + behind);
        wrong(2, ahead.length(), ahead + "9".repeat(100) + behind);
        right(chutes, ahead + "0".repeat(100) + most + behind);
        wrong(1, ahead.length(), ahead + "x" + behind);
        wrong(1, ahead.length(), ahead.stripTrailing() + " ".repeat(ahead.length() - ahead.stripTrailing().length()));
    }

    private void setupHeads() {
        wrong(1, 0, "");
        wrong(1, 3, " \n ");
        wrong(1, 0, "capsul 1 1 1;");
        wrong(1, 0, "capsules 1 1 1;");
        wrong(1, 0, "xapsule 1 1 1;");
        wrong(1, 0, "900 60 10;");
        wrong(1, 0, "900 60 10 5;");
        wrong(1, 0, "Capsule 1 1 1;");
        wrong(1, 0, ";");
        wrong(1, 0, "layer 1 2 3 below 4 under 5;");
        wrong(1, 7, "capsule");
        wrong(1, 8, "capsule ");
        wrong(1, 9, "capsule 1");
        wrong(1, 13, "capsule 1 1 1");
        wrong(1, 14, "capsule 1 1 1 1;");
        wrong(1, 14, "capsule 1 1 1;;");
        wrong(1, 8, "capsule -1 1 1;");
        wrong(1, 10, "capsule 1 -1 1;");
        wrong(1, 14, "capsule 1 1 1;capsule 1 1 1;");
        right(0, "capsule 1 1 1;");
    }

    private void setupRanges() {
        range(0, "capsule ", 1, 30000, " 60 10;");
        range(0, "capsule 900 ", 0, 400, " 10;");
        range(0, "capsule 900 60 ", 1, 99, ";");
        range(1, HEAD + "layer ", 1, 99, " 2 3 below 4 under 5;");
        range(1, HEAD + "layer 1 ", 1, 12, " 3 below 4 under 5;");
        range(1, HEAD + "layer 1 2 ", 1, 9999, " below 4 under 5;");
        range(1, HEAD + "layer 1 2 3 below ", 1, 30000, " under 5;");
        range(1, HEAD + "layer 1 2 3 below 4 under ", 1, 400, ";");
        range(1, HEAD + "reserve ", 1, 99, " 2 3 below 4 after 5;");
        range(1, HEAD + "reserve 1 ", 1, 12, " 3 below 4 after 5;");
        range(1, HEAD + "reserve 1 2 ", 1, 9999, " below 4 after 5;");
        range(1, HEAD + "reserve 1 2 3 below ", 1, 30000, " after 5;");
        range(1, HEAD + "reserve 1 2 3 below 4 after ", 1, 8, ";");
        range(0, HEAD + "target ", 1, 30000, " 9;");
        range(0, HEAD + "target 9 ", 1, 400, ";");
        range(0, HEAD + "wind ", 0, 30000, " 9;");
        range(0, HEAD + "wind 9 ", 0, 40, ";");
        range(0, HEAD + "wind 9 -", 0, 40, ";");
        range(0, HEAD + "spot -", 0, 9999, " 9999 9;");
        range(0, HEAD + "spot -9999 ", 0, 9999, " 9;");
        range(0, HEAD + "spot -9999 -", 0, 9999, " 9;");
        range(0, HEAD + "spot 1 2 ", 1, 99, ";");
        range(0, HEAD + "cool ", 0, 99, ";");
    }

    private void setupStatements() {
        right(1, HEAD + "layer 1 2 3 below 4 under 5 jammed;");
        right(1, HEAD + "layer1 2 3below4under5jammed;");
        wrong(1, 53, HEAD + "layer 1 2 3 below 4 under 5 jammed jammed;");
        wrong(1, 46, HEAD + "layer 1 2 3 below 4 under 5 jam;");
        wrong(1, 38, HEAD + "layer 1 2 3 below 4 after 5;");
        wrong(1, 40, HEAD + "reserve 1 2 3 below 4 under 5;");
        wrong(1, 30, HEAD + "layer 1 2 3 4 under 5;");
        wrong(1, 38, HEAD + "layer 1 2 3 below 4 5;");
        wrong(1, 40, HEAD + "reserve 1 2 3 below 4 5;");
        wrong(1, 38, HEAD + "layer 1 2 3 below 4 xnder 5;");
        wrong(1, 40, HEAD + "reserve 1 2 3 below 4 xfter 5;");
        wrong(1, 46, HEAD + "layer 1 2 3 below 4 under 5 xammed;");
        wrong(1, 18, HEAD + "xayer 1 2 3 below 4 under 5;");
        wrong(1, 18, HEAD + "xeserve 1 2 3 below 4 after 5;");
        wrong(1, 18, HEAD + "xarget 9 5;");
        wrong(1, 18, HEAD + "xind 9 5;");
        wrong(1, 18, HEAD + "xpot 1 2 3;");
        wrong(1, 18, HEAD + "xool 5;");
        wrong(1, 48, HEAD + "reserve 1 2 3 below 4 after 5 jammed;");
        wrong(1, 30, HEAD + "layer 1 2 3 under 5 below 4;");
        wrong(1, 18, HEAD + "chute 1 2 3;");
        wrong(1, 27, HEAD + "wind 9 - - 5;");
        wrong(1, 25, HEAD + "wind 9 ;");
        wrong(1, 23, HEAD + "wind -9 5;");
        right(0, HEAD + "wind 9 - \n 5;");
        right(0, HEAD + "wind 9-5;");
        right(0, HEAD + "wind 9 -0;");
        right(0, HEAD + "cool 5;cool 6;cool 5;");
        wrong(2, 31, HEAD + "cool 5; cool 100;");
        wrong(1, 24, HEAD + "cool 5");
        right(0, HEAD + "spot 3 3 9;spot-3-3 9;spot - 3 3 9;");
        wrong(1, 27, HEAD + "spot 3 5 -9;");
        LayeredChute object = Check.made(HEAD + "layer 1 2 3 below 4 under 5 jammed;layer 6 7 8 below 9 under 10;"
                + "reserve 11 12 13 below 14 after 8;target 15 16;wind 17 -18;spot -19 20 21;cool 5;cool 22;");
        check.equal("P3 the jammed layer", "1 2 3 4 5 0 2 1", Check.chute(object, 0));
        check.equal("P3 the other layer", "6 7 8 9 10 0 7 0", Check.chute(object, 1));
        check.equal("P3 the reserve", "11 12 13 14 8 0 12 0", Check.chute(object, 2));
        check.equal("P3 target and wind", "16 -18", object.targetAt(15) + " " + object.windAt(17));
        check.equal("P3 the spot", "-19 20 21", object.spot(0, 0) + " " + object.spot(0, 1) + " " + object.spot(0, 2));
        check.equal("P3 the last COOL counts", 22, object.size(5));
    }

    private void setupOnceOnly() {
        String reserve = "reserve 1 2 3 below 4 after 5;";
        wrong(3, HEAD.length() + reserve.length(), HEAD + reserve + reserve);
        wrong(3, HEAD.length() + reserve.length(), HEAD + reserve + "reserve");
        wrong(3, 37, HEAD + "target 9 5; target 9 5;");
        wrong(3, 37, HEAD + "target 9 5; target 9");
        wrong(2, 41, HEAD + "target 30000 5; target 30001 5;");
        right(0, HEAD + "target 9 5;wind 9 5;target 8 5;wind 8 5;");
        wrong(3, 32, HEAD + "wind 0 5;wind 0 6;");
        wrong(3, 25, HEAD + "spot 5 4 9;");
        wrong(3, 27, HEAD + "spot -5 -6 9;");
        wrong(3, 26, HEAD + "spot 0 -1 9;");
        wrong(2, 28, HEAD + "spot 9999 10000 9;");
        right(0, HEAD + "spot -0 0 9;spot 1 5 9;spot 1 5 9;");
    }

    private void setupTooMany() {
        StringBuilder targets = new StringBuilder(HEAD);
        StringBuilder winds = new StringBuilder(HEAD);
        for (int i = 1; i <= 8; i++) {
            targets.append("target ").append(i).append(" 5;");
            winds.append("wind ").append(i).append(" 5;");
        }
        right(8, HEAD + LAYER.repeat(8));
        wrong(4, HEAD.length() + 8 * LAYER.length(), HEAD + LAYER.repeat(9));
        wrong(4, HEAD.length() + 8 * LAYER.length(), HEAD + LAYER.repeat(8) + "layer;");
        right(0, targets.toString());
        wrong(4, targets.length() + 1, targets + " target 9 5;");
        wrong(4, targets.length(), targets + "target 1 5;");
        right(0, winds.toString());
        wrong(4, winds.length(), winds + "wind 9 5;");
        right(0, HEAD + "spot 1 2 3;".repeat(8));
        wrong(4, HEAD.length() + 88, HEAD + "spot 1 2 3;".repeat(9));
        right(0, HEAD + "cool 7;".repeat(80));
    }

    private void tokens() {
        right(0, "\n  capsule\n\n900 60\n10 ; \n");
        right(0, "capsule900 60 10;");
        wrong(1, 13, "capsule900 60;10;");
        wrong(1, 15, "capsule 900 60 x10;");
        wrong(1, 14, "capsule 900 60\t10;");
        wrong(1, 11, "capsule 900\r60 10;");
        wrong(1, 11, "capsule 900.5 60 10;");
        wrong(1, 18, HEAD + "\u00e4");
        wrong(1, 18, HEAD + "\u00ff");
        wrong(1, 22, HEAD + "coolB 5;");
        wrong(1, 7, "capsule+900 60 10;");
        wrong(1, 4, "    \u0001capsule 900 60 10;");
        wrong(1, 18, HEAD + "cooll 5;");
        wrong(1, 18, HEAD + "coolz 5;");
        wrong(1, 18, HEAD + "coola 5;");
        wrong(1, 22, HEAD + "cool`5;");
        wrong(1, 22, HEAD + "cool{5;");
        wrong(1, 23, HEAD + "cool /5;");
        wrong(1, 23, HEAD + "cool :5;");
        wrong(1, 24, HEAD + "cool 5:");
        right(0, HEAD + "cool 09;");
        LayeredChute object = new LayeredChute();
        for (String earlier : new String[] {"a".repeat(600), "9".repeat(600), " ".repeat(600), ";".repeat(600)}) {
            Check.load(object, earlier);
            check.equal("P6 what stood there earlier does not matter", "-1 1 9",
                    Check.load(object, "capsule 9") + " " + object.errorCode() + " " + object.errorPosition());
            Check.play(object, earlier);
            check.equal("P6 nor behind a word", "-1 1 14",
                    Check.play(object, "tick 9;reserve") + " " + object.errorCode() + " " + object.errorPosition());
        }
        wrong(1, 18, HEAD + "coo l 5;");
        wrong(1, 18, HEAD + "wi\nnd 5 5;");
        wrong(2, 23, HEAD + "wind 1000000000000 5 5;");
    }

    private void play() {
        LayeredChute object = Check.made("capsule 3000 100 10;layer 9 2 900 below 3000 under 400;"
                + "layer 9 2 900 below 3000 under 400 jammed;reserve 9 3 900 below 3000 after 1;");
        check.equal("P4 nothing to do", 0, Check.play(object, ""));
        check.equal("P4 blanks alone", 0, Check.play(object, " \n"));
        check.equal("P4 every kind of command", 8,
                Check.play(object, "open 0;steer -7;tick 2;fall 2500;open 1;reserve;cut 2;\n cut 0 ;"));
        check.equal("P4 the states", "434", Check.states(object));
        check.equal("P4 the slip", -7, object.capsule(5));
        check.equal("P4 they are acts", "8 8", object.account(0) + " " + object.size(9));
        check.equal("P4 the text is empty afterwards", 0, object.append(0, 0, 0, 0, 0));
        check.equal("P4 each can be undone", 7, object.undo());
        check.equal("P4 it is the latest", "134", Check.states(object));
        LayeredChute twin = Check.made("capsule 3000 100 10;layer 9 2 900 below 3000 under 400;");
        LayeredChute other = Check.made("capsule 3000 100 10;layer 9 2 900 below 3000 under 400;");
        Check.play(twin, "tick 3;open 0;steer 4;fall 100;");
        other.tick(3);
        other.open(0);
        other.steer(4);
        other.fallTo(100);
        check.equal("P4 the commands are the acts", Check.everything(other), Check.everything(twin));
    }

    private void playStops() {
        LayeredChute object = Check.made("capsule 3000 100 10;layer 9 2 900 below 3000 under 400;");
        check.equal("P4 stops at a refused command", 2, Check.play(object, "tick 1;open 0;open 0;tick 1;tick 1;"));
        check.equal("P4 the rest is not done", 1, object.capsule(6));
        check.equal("P4 the refusal is told", "2 1", object.account(0) + " " + object.account(3));
        check.equal("P5 a refusal is no error", 0, object.errorCode());
        check.equal("P6 a refusal is no error", -1, object.errorPosition());
        check.equal("P4 the first one refused", 0, Check.play(object, "reserve;tick 1;"));
        check.equal("P4 until it has landed", 1, Check.play(object, "fall 0;tick 1;"));
        check.equal("P4 refused when landed", 0, Check.play(object, "steer 1;"));
        check.equal("P4 the accounts", "3 2 2", object.account(0) + " " + object.account(1) + " " + object.account(3));
    }

    private void playWithError() {
        LayeredChute object = Check.made("capsule 3000 100 10;layer 9 2 900 below 3000 under 400;");
        object.tick(1);
        String world = Check.world(object);
        check.equal("P4 an error", -1, Check.play(object, "tick 1;open 0;tick 1"));
        check.equal("P4 nothing is done", world, Check.world(object));
        check.equal("P4 the accounts stay", 1, object.account(0));
        check.equal("P4 the undo stays", 1, object.size(9));
        check.equal("P4 the text is empty behind an error", 0, object.append(0, 0, 0, 0, 0));
        check.equal("P5 the code of a script", 1, object.errorCode());
        check.equal("P6 the position in a script", 20, object.errorPosition());
    }

    private void script(String due, String text) {
        LayeredChute object = Check.made("capsule 30000 100 10;layer 9 2 9999 below 30000 under 400;"
                + "layer 9 2 9999 below 30000 under 400 jammed;reserve 9 3 900 below 30000 after 1;");
        check.equal("script " + text, due, Check.played(object, text));
    }

    private void scriptRanges() {
        script("1 0 -1", "tick 1;");
        script("1 0 -1", "tick 200;");
        script("-1 2 5", "tick 0;");
        script("-1 2 5", "tick 201;");
        script("-1 2 5", "tick 99999999999999999999;");
        script("-1 1 5", "tick -1;");
        script("-1 1 4", "tick;");
        script("1 0 -1", "fall 0;");
        script("0 0 -1", "fall 30000;");
        script("-1 2 5", "fall 30001;");
        script("1 0 -1", "open 0;");
        script("1 0 -1", "open 0001;");
        script("-1 2 5", "open 2;");
        script("-1 1 5", "open -0;");
        script("1 0 -1", "open 1;reserve;");
        script("-1 1 8", "reserve 0;");
        script("4 0 -1", "open 1;open 0;reserve;cut 2;");
        script("0 0 -1", "cut 2;");
        script("-1 2 4", "cut 3;");
        script("2 0 -1", "open 0;steer 9;");
        script("2 0 -1", "open 0;steer - 9;");
        script("2 0 -1", "open 0;steer -0;");
        script("-1 2 6", "steer 10;");
        script("-1 2 7", "steer -10;");
        script("-1 1 7", "steer --9;");
        script("-1 1 0", "jam 0;");
        script("-1 1 0", "xick 1;");
        script("-1 1 0", "xall 1;");
        script("-1 1 0", "xpen 0;");
        script("-1 1 0", "xeserve;");
        script("-1 1 0", "xut 0;");
        script("-1 1 0", "xteer 0;");
        script("-1 1 0", "1;");
        script("-1 1 0", "capsule 9 9 9;");
        script("-1 1 0", ";");
        script("-1 1 7", "tick 1;;");
        script("-1 1 7", "tick 1 tick 1;");
        script("-1 1 6", "tick 1");
        script("-1 1 8", "tick 1; T");
        LayeredChute bare = new LayeredChute();
        check.equal("P4 there is no layer", "-1 2 5", Check.play(bare, "open 0;") + " " + bare.errorCode() + " "
                + bare.errorPosition());
        check.equal("P4 there is no chute", "-1 2 4", Check.play(bare, "cut 0;") + " " + bare.errorCode() + " "
                + bare.errorPosition());
    }

    private void scriptTooLong() {
        String tick = "tick 1;";
        script("40 0 -1", tick.repeat(40));
        script("-1 4 280", tick.repeat(41));
        script("-1 4 281", tick.repeat(40) + " reserve");
        script("-1 1 280", tick.repeat(40) + "wait 1;");
        script("-1 1 280", tick.repeat(40) + ";");
        LayeredChute object = new LayeredChute();
        Check.play(object, "fall 2900;" + "tick 1;".repeat(39));
        check.equal("P4 40 commands can be told, 8 of them can be undone", 8, object.size(9));
    }

    private void errorsAreOfTheLatest() {
        LayeredChute object = new LayeredChute();
        Check.load(object, "capsule 0 1 1;");
        check.equal("P5 of a load", 2, object.errorCode());
        check.equal("P6 of a load", 8, object.errorPosition());
        object.tick(1);
        object.undo();
        object.save(0);
        object.restore(0);
        check.equal("P5 stays behind other calls", 2, object.errorCode());
        check.equal("P6 stays behind other calls", 8, object.errorPosition());
        Check.play(object, "tick 1;tick");
        check.equal("P5 of a play", 1, object.errorCode());
        check.equal("P6 of a play", 11, object.errorPosition());
        Check.play(object, "tick 1;");
        check.equal("P5 a play without error", 0, object.errorCode());
        check.equal("P6 a play without error", -1, object.errorPosition());
        Check.load(object, "x");
        Check.load(object, HEAD);
        check.equal("P5 a load without error", 0, object.errorCode());
        check.equal("P6 a load without error", -1, object.errorPosition());
    }
}
