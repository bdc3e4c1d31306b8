import java.util.NoSuchElementException;

/** The edges of promises 7 to 16 and 19 to 22: what there is. AIR is 100 below 400 metres. */
final class EdgeState {
    private static final int[] FAR = {-1, Integer.MIN_VALUE, Integer.MAX_VALUE};
    private static final String BOUNDS = "IndexOutOfBoundsException";

    /** Of the object of StateTest chutes 0, 2 and 5 are open, 1 was jammed, 3 is cut away, and 4 is packed. */
    private static LayeredChute busy() {
        return StateTest.busy();
    }

    private static void illegal(Check check, int first, Asked asked) {
        check.thrown("the first number beyond", IllegalArgumentException.class, EdgeState::busy, o -> asked.of(o, first));
        for (int what : FAR) {
            check.thrown("" + what, IllegalArgumentException.class, EdgeState::busy, o -> asked.of(o, what));
        }
    }

    private static void bounds(Check check, int first, Asked asked) {
        check.thrown("the first number beyond", IndexOutOfBoundsException.class, EdgeState::busy, o -> asked.of(o, first));
        for (int number : FAR) {
            check.thrown("" + number, IndexOutOfBoundsException.class, EdgeState::busy, o -> asked.of(o, number));
        }
    }

    private interface Asked {
        int of(LayeredChute object, int number);
    }

    // ---- promise 7

    @Sentence("Throws `IllegalArgumentException` if what is out of range")
    void p07OutOfRange(Check check) {
        illegal(check, 9, (o, what) -> o.capsule(what));
    }

    @Sentence("0 HEIGHT, 1 SPEED, 2 X, 3 MASS, 4 HEAT, 5 SLIP, 6 TIME, 7 AIR at HEIGHT, 8 the result of the landing")
    void p07FirstAndLast(Check check) {
        LayeredChute object = Check.made("capsule 12000 400 99;wind 0 4;layer 1 1 9999 below 30000 under 400;");
        object.open(0);
        object.steer(-3);
        object.tick(1);
        check.equal("all nine", "11623 377 1 99 79 -3 1 71 0", Check.capsule(object));
        object.fallTo(0);
        check.equal("landed", "0 3", object.capsule(0) + " " + object.capsule(8));
    }

    @Sentence("AIR at a height is 100 less (the height / 400).")
    void p07Air(Check check) {
        int[] heights = {1, 399, 400, 799, 800, 29999, 30000};
        int[] due = {100, 100, 99, 99, 98, 26, 25};
        for (int i = 0; i < heights.length; i++) {
            check.equal("at " + heights[i], due[i], Check.made("capsule " + heights[i] + " 0 1;").capsule(7));
        }
        check.equal("at 0", 100, landed("").capsule(7));
    }

    @Sentence("It has landed if HEIGHT is 0.")
    void p07Landed(Check check) {
        LayeredChute object = Check.made("capsule 31 20 10;");
        object.tick(1);
        check.equal("one metre above", "1 0", object.capsule(0) + " " + object.capsule(8));
        object.tick(1);
        check.equal("landed", "0 3", object.capsule(0) + " " + object.capsule(8));
    }

    @Sentence("It is 0 as long as the capsule has not landed.")
    void p07NoResultYet(Check check) {
        check.equal("in a spot, slow enough", 0, Check.made("capsule 1 0 10;spot 0 0 99;").capsule(8));
        check.equal("without spots", 0, Check.made("capsule 1 0 10;").capsule(8));
    }

    @Sentence("The result of a landing is 1 if X is in a spot and SPEED is at most the SAFE of the first spot (by numbers) in which X is, 2 if X is in a spot otherwise, 3 if X is in no spot.")
    void p07AtMostSafe(Check check) {
        check.equal("SPEED is SAFE", 1, landed("spot 0 0 30;").capsule(8));
        check.equal("SPEED is one more", 2, landed("spot 0 0 29;").capsule(8));
    }

    @Sentence("The result of a landing is 1 if X is in a spot and SPEED is at most the SAFE of the first spot (by numbers) in which X is, 2 if X is in a spot otherwise, 3 if X is in no spot.")
    void p07FirstSpotCounts(Check check) {
        check.equal("the first is too strict", 2, landed("spot -9 9 29;spot 0 0 99;").capsule(8));
        check.equal("the second would be", 1, landed("spot 0 0 30;spot -9 9 1;").capsule(8));
        check.equal("one in which X is not comes first", 1, landed("spot 1 9 1;spot 0 0 30;").capsule(8));
    }

    @Sentence("each from one X to another one (both belong to it)")
    void p07BothBelongToIt(Check check) {
        check.equal("the first X", 1, landed("spot 0 9 99;").capsule(8));
        check.equal("the second X", 1, landed("spot -9 0 99;").capsule(8));
        check.equal("one ahead of it", 3, landed("spot 1 9 99;").capsule(8));
        check.equal("one behind it", 3, landed("spot -9 -1 99;").capsule(8));
        check.equal("without spots", 3, landed("").capsule(8));
    }

    /** It lands with SPEED 30 at X 0. */
    private static LayeredChute landed(String more) {
        LayeredChute object = Check.made("capsule 30 20 10;" + more);
        object.tick(1);
        return object;
    }

    // ---- promise 8

    @Sentence("Throws `IllegalArgumentException` if what is out of range")
    void p08OutOfRange(Check check) {
        illegal(check, 16, (o, what) -> o.size(what));
    }

    @Sentence("1 1 if there is a reserve, otherwise 0")
    void p08Reserve(Check check) {
        check.equal("none", 0, Check.made("capsule 9 9 9;layer 1 1 1 below 1 under 1;").size(1));
        check.equal("one", 1, Check.made("capsule 9 9 9;reserve 1 1 1 below 1 after 1;").size(1));
    }

    @Sentence("6 open chutes, 7 failed layers")
    void p08OpenAndFailed(Check check) {
        LayeredChute object = Check.made("capsule 390 20 10;" + "layer 1 1 99 below 390 under 400;".repeat(7)
                + "layer 1 1 99 below 390 under 400 jammed;reserve 1 1 99 below 390 after 1;");
        check.equal("none", "0 0", object.size(6) + " " + object.size(7));
        for (int layer = 0; layer < 8; layer++) {
            object.open(layer);
        }
        check.equal("seven, and one has failed", "7 1", object.size(6) + " " + object.size(7));
        object.openReserve();
        check.equal("the reserve, too", 8, object.size(6));
    }

    @Sentence("A layer has failed if its state is 2 or 3.")
    void p08OnlyLayersHaveFailed(Check check) {
        LayeredChute object = Check.made("capsule 390 20 10;layer 99 1 1 below 390 under 400;"
                + "layer 1 1 1 below 390 under 400 jammed;layer 1 1 99 below 390 under 400;"
                + "reserve 99 1 1 below 390 after 1;");
        object.open(0);
        object.open(1);
        object.open(2);
        object.openReserve();
        object.cut(2);
        check.equal("jammed", 1, object.size(7));
        object.tick(1);
        check.equal("states", "2342", Check.states(object));
        check.equal("jammed and torn, but not cut away, and not the reserve", 2, object.size(7));
    }

    @Sentence("8 kept events, 9 acts that can be undone")
    void p08EventsAndActsAreBounded(Check check) {
        LayeredChute object = withEvents(30);
        check.equal("30 events", "30 8", object.size(8) + " " + object.size(9));
        object.cut(6);
        check.equal("not 31", "30 8", object.size(8) + " " + object.size(9));
        object = new LayeredChute();
        check.equal("none", "0 0", object.size(8) + " " + object.size(9));
    }

    @Sentence("10 lines of all chutes, 11 lines that are there, of chutes that are not cut away, 12 torn lines, 13 lines that were there when their chute was cut away")
    void p08Lines(Check check) {
        check.equal("without chutes", "0 0 0 0", lines(new LayeredChute()));
        LayeredChute object = busy();
        check.equal("3 tore, 3 were cut away", "27 21 3 3", lines(object));
        object.cut(2);
        check.equal("9 more, but not the 3 that tore", "27 12 3 12", lines(object));
        object.cut(0);
        object.cut(5);
        check.equal("packed and failed ones are there", "27 3 3 21", lines(object));
    }

    private static String lines(LayeredChute object) {
        return object.size(10) + " " + object.size(11) + " " + object.size(12) + " " + object.size(13);
    }

    @Sentence("14 the metres fallen since the setup")
    void p08Metres(Check check) {
        LayeredChute object = Check.made("capsule 29 20 10;");
        check.equal("none", 0, object.size(14));
        object.tick(1);
        check.equal("not more than HEIGHT was, though SPEED is 30", "29 30", object.size(14) + " " + object.capsule(1));
        Check.load(object, "capsule 31 20 10;");
        check.equal("a new setup", 0, object.size(14));
        object.tick(1);
        check.equal("SPEED", 30, object.size(14));
    }

    @Sentence("15 all GAINs since the setup, added up, ahead of COOL and of the bounds of HEAT")
    void p08GainsAheadOfCool(Check check) {
        LayeredChute object = Check.made("capsule 12000 400 99;cool 99;");
        int[] heats = {6, 7, 4, 0};
        int[] gains = {105, 205, 301, 394};
        for (int second = 0; second < 4; second++) {
            object.tick(1);
            check.equal("second " + second, heats[second] + " " + gains[second],
                    object.capsule(4) + " " + object.size(15));
        }
        Check.load(object, "capsule 12000 400 99;cool 99;");
        check.equal("a new setup", 0, object.size(15));
    }

    @Sentence("15 all GAINs since the setup, added up, ahead of COOL and of the bounds of HEAT")
    void p08GainsAheadOfTheBounds(Check check) {
        LayeredChute object = Check.made("capsule 30000 400 99;cool 0;");
        int due = 0;
        for (int second = 0; second < 40; second++) {
            int air = object.capsule(7);
            object.tick(1);
            due += object.capsule(1) * object.capsule(1) * air / 100000;
        }
        check.equal("HEAT is at its bound", 999, object.capsule(4));
        check.equal("the GAINs go on", true, due > 1100);
        check.equal("all of them", due, object.size(15));
    }

    // ---- promise 9

    @Sentence("Throws `IndexOutOfBoundsException` if there is no such chute")
    void p09NoSuchChute(Check check) {
        bounds(check, 6, (o, number) -> o.chute(number, 0));
        check.equal("without chutes", BOUNDS, Check.outcome(o -> o.chute(0, 0), new LayeredChute()));
        check.equal("without a reserve", BOUNDS, Check.outcome(o -> o.chute(1, 0),
                Check.made("capsule 9 9 9;layer 1 1 1 below 1 under 1;")));
    }

    @Sentence("Throws `IllegalArgumentException` if what is out of range")
    void p09OutOfRange(Check check) {
        illegal(check, 8, (o, what) -> o.chute(0, what));
        illegal(check, 8, (o, what) -> o.chute(5, what));
    }

    @Sentence("If several exceptions apply, the one that comes first in the method's list is thrown.")
    void p09TheChuteComesFirst(Check check) {
        bounds(check, 6, (o, number) -> o.chute(number, 8));
        bounds(check, 6, (o, number) -> o.chute(number, -1));
    }

    @Sentence("A chute is packed (state 0, at first), open (1), failed because all its lines tore (2), failed because it was jammed (3), or cut away (4).")
    void p09States(Check check) {
        check.equal("at first", "000000", Check.states(Check.made(StateTest.BUSY)));
        check.equal("0, 1, 3 and 4", "131401", Check.states(busy()));
        check.equal("2", 2, torn().chute(0, 5));
    }

    @Sentence("4 MOST of a layer, FAILS of the reserve")
    void p09MostOrFails(Check check) {
        LayeredChute object = Check.made("capsule 9 9 9;layer 1 1 1 below 1 under 400;reserve 1 1 1 below 1 after 8;");
        check.equal("MOST", 400, object.chute(0, 4));
        check.equal("FAILS", 8, object.chute(1, 4));
    }

    @Sentence("6 how many of its lines are there (0 if it is cut away)")
    void p09LinesThere(Check check) {
        LayeredChute object = busy();
        check.equal("cut away, nothing had torn", 0, object.chute(3, 6));
        check.equal("some tore", 9, object.chute(2, 6));
        object.cut(2);
        check.equal("cut away, some had torn", 0, object.chute(2, 6));
        check.equal("jammed", 2, object.chute(1, 6));
        check.equal("all tore", 0, torn().chute(0, 6));
    }

    @Sentence("7 1 if it is jammed (also when it has failed by that), otherwise 0")
    void p09Jammed(Check check) {
        LayeredChute object = Check.made(StateTest.BUSY);
        check.equal("packed", "1 0", object.chute(1, 7) + " " + object.chute(0, 7));
        object.open(1);
        check.equal("failed by that", "3 1", object.chute(1, 5) + " " + object.chute(1, 7));
        object.jam(0, true);
        object.jam(0, false);
        check.equal("not any more", 0, object.chute(0, 7));
        check.equal("the reserve", 0, object.chute(5, 7));
    }

    /** All four lines of its only layer tore. */
    private static LayeredChute torn() {
        LayeredChute object = Check.made("capsule 399 20 10;layer 99 4 1 below 399 under 400;");
        object.open(0);
        object.tick(1);
        return object;
    }

    // ---- promise 10

    @Sentence("Throws `IndexOutOfBoundsException` if there is no such chute or line")
    void p10NoSuchChute(Check check) {
        bounds(check, 6, (o, number) -> o.line(number, 0));
        check.equal("without chutes", BOUNDS, Check.outcome(o -> o.line(0, 0), new LayeredChute()));
    }

    @Sentence("Throws `IndexOutOfBoundsException` if there is no such chute or line")
    void p10NoSuchLine(Check check) {
        bounds(check, 4, (o, number) -> o.line(0, number));
        check.equal("the reserve", BOUNDS, Check.outcome(o -> o.line(5, 5), busy()));
        check.equal("cut away", BOUNDS, Check.outcome(o -> o.line(3, 3), busy()));
        check.equal("12 lines", BOUNDS, Check.outcome(o -> o.line(2, 12), busy()));
    }

    @Sentence("Line j of a chute (j from 0) has a strength of STRENGTH plus 3 times j")
    void p10FirstToLast(Check check) {
        LayeredChute object = Check.made("capsule 9 9 9;layer 1 12 9999 below 1 under 1;reserve 1 1 1 below 1 after 1;");
        check.equal("12 lines", "9999 10002 10005 10008 10011 10014 10017 10020 10023 10026 10029 10032",
                Check.lines(object, 0));
        check.equal("one line", "1", Check.lines(object, 1));
    }

    @Sentence("Returns the strength of this line (also of a chute that is cut away, if it was there then); NONE if it is torn.")
    void p10CutAway(Check check) {
        LayeredChute object = busy();
        check.equal("nothing had torn", "9999 10002 10005", Check.lines(object, 3));
        object.cut(2);
        check.equal("three had torn", "-1 -1 -1 10 13 16 19 22 25 28 31 34", Check.lines(object, 2));
    }

    @Sentence("Returns the strength of this line (also of a chute that is cut away, if it was there then); NONE if it is torn.")
    void p10Torn(Check check) {
        check.equal("all", "-1 -1 -1 -1", Check.lines(torn(), 0));
        check.equal("three", "-1 -1 -1 10 13 16 19 22 25 28 31 34", Check.lines(busy(), 2));
        check.equal("jammed, not torn", "8 11", Check.lines(busy(), 1));
    }

    // ---- promises 11 and 12

    @Sentence("Throws `IllegalArgumentException` if height is out of range")
    void p11OutOfRange(Check check) {
        illegal(check, 30001, (o, height) -> o.targetAt(height));
    }

    @Sentence("The target at a height is the speed of the target with the least height that is not less than this height; there may be none.")
    void p11NotLess(Check check) {
        LayeredChute object = Check.made("capsule 900 20 10;target 390 25;target 30000 9;target 200 10;");
        check.equal("from 0 on", "10 10 10", object.targetAt(0) + " " + object.targetAt(1) + " " + object.targetAt(200));
        check.equal("one above", "25 25", object.targetAt(201) + " " + object.targetAt(390));
        check.equal("to 30000", "9 9", object.targetAt(391) + " " + object.targetAt(30000));
    }

    @Sentence("Returns the target at this height; NONE if there is none.")
    void p11None(Check check) {
        check.equal("without targets", "-1 -1", new LayeredChute().targetAt(0) + " " + new LayeredChute().targetAt(30000));
        LayeredChute object = Check.made("capsule 900 20 10;target 1 25;");
        check.equal("at the only one", "25 25", object.targetAt(0) + " " + object.targetAt(1));
        check.equal("above it", "-1 -1", object.targetAt(2) + " " + object.targetAt(30000));
    }

    @Sentence("There are at most 8 targets")
    void p11TheEighth(Check check) {
        LayeredChute object = eightTargetsAndWinds();
        for (int i = 1; i <= 8; i++) {
            check.equal("target " + i, i, object.targetAt(i * 10));
        }
    }

    @Sentence("at most 8 winds, each with a height and a wind (-40 to 40)")
    void p12TheEighth(Check check) {
        LayeredChute object = eightTargetsAndWinds();
        for (int i = 1; i <= 8; i++) {
            check.equal("wind " + i, -5 * i, object.windAt(i * 10));
        }
    }

    private static LayeredChute eightTargetsAndWinds() {
        StringBuilder text = new StringBuilder("capsule 900 20 10;");
        for (int i = 8; i >= 1; i--) {
            text.append("target ").append(i * 10).append(' ').append(i).append(";wind ").append(i * 10).append('-')
                    .append(5 * i).append(';');
        }
        return Check.made(text.toString());
    }

    @Sentence("Throws `IllegalArgumentException` if height is out of range")
    void p12OutOfRange(Check check) {
        illegal(check, 30001, (o, height) -> o.windAt(height));
    }

    @Sentence("The wind at a height is that of the wind with the greatest height that is not above this height; 0 if there is none.")
    void p12NotAbove(Check check) {
        LayeredChute object = Check.made("capsule 900 20 10;wind 300 4;wind 100 -40;wind 30000 40;");
        check.equal("at it, and above", "-40 -40 -40", object.windAt(100) + " " + object.windAt(101) + " "
                + object.windAt(299));
        check.equal("at the next, and above", "4 4", object.windAt(300) + " " + object.windAt(29999));
        check.equal("at 30000", 40, object.windAt(30000));
        check.equal("a wind at 0", -3, busy().windAt(0));
    }

    @Sentence("The wind at a height is that of the wind with the greatest height that is not above this height; 0 if there is none.")
    void p12None(Check check) {
        check.equal("without winds", "0 0", new LayeredChute().windAt(0) + " " + new LayeredChute().windAt(30000));
        LayeredChute object = Check.made("capsule 900 20 10;wind 100 -40;");
        check.equal("below the only one", "0 0", object.windAt(0) + " " + object.windAt(99));
    }

    // ---- promise 13

    @Sentence("Throws `IndexOutOfBoundsException` if there is no such spot")
    void p13NoSuchSpot(Check check) {
        bounds(check, 3, (o, number) -> o.spot(number, 0));
        check.equal("without spots", BOUNDS, Check.outcome(o -> o.spot(0, 0), new LayeredChute()));
        check.equal("8 spots", BOUNDS, Check.outcome(o -> o.spot(8, 0), eightSpots()));
    }

    @Sentence("Throws `IllegalArgumentException` if what is out of range")
    void p13OutOfRange(Check check) {
        illegal(check, 3, (o, what) -> o.spot(0, what));
    }

    @Sentence("If several exceptions apply, the one that comes first in the method's list is thrown.")
    void p13TheSpotComesFirst(Check check) {
        bounds(check, 3, (o, number) -> o.spot(number, 3));
    }

    @Sentence("at most 8 spots, numbered from 0")
    void p13TheEighth(Check check) {
        check.equal("the first", "-9999 9999 99", Check.spot(eightSpots(), 0));
        check.equal("the last", "7 8 9", Check.spot(eightSpots(), 7));
    }

    private static LayeredChute eightSpots() {
        return Check.made("capsule 9 9 9;spot -9999 9999 99;" + "spot 1 2 3;".repeat(6) + "spot 7 8 9;");
    }

    // ---- promise 14

    @Sentence("Throws `NoSuchElementException` if there is no such event")
    void p14NoSuchEvent(Check check) {
        for (int index : new int[] {-1, 7, Integer.MIN_VALUE, Integer.MAX_VALUE}) {
            check.thrown("event " + index, NoSuchElementException.class, EdgeState::busy, o -> o.event(index, 0));
        }
        check.equal("without events", "NoSuchElementException", Check.outcome(o -> o.event(0, 0), new LayeredChute()));
        check.equal("a 31st", "NoSuchElementException", Check.outcome(o -> o.event(30, 0), withEvents(32)));
    }

    @Sentence("Throws `IllegalArgumentException` if what is out of range")
    void p14OutOfRange(Check check) {
        illegal(check, 4, (o, what) -> o.event(0, what));
        illegal(check, 4, (o, what) -> o.event(6, what));
    }

    @Sentence("If several exceptions apply, the one that comes first in the method's list is thrown.")
    void p14TheEventComesFirst(Check check) {
        check.thrown("both are wrong", NoSuchElementException.class, EdgeState::busy, o -> o.event(7, 4));
        check.thrown("both are negative", NoSuchElementException.class, EdgeState::busy, o -> o.event(-1, -1));
    }

    @Sentence("The latest 30 events are kept, in their order.")
    void p14Thirty(Check check) {
        LayeredChute object = withEvents(29);
        check.equal("29", "0 0 0 20, 0 0 1 20, 2 5 4 7", Check.event(object, 0) + ", " + Check.event(object, 1) + ", "
                + Check.event(object, 28));
        object.cut(5);
        check.equal("30", "0 0 0 20, 2 5 5 7", Check.event(object, 0) + ", " + Check.event(object, 29));
        object.cut(6);
        check.equal("31: the earliest one is gone", "0 0 1 20, 2 5 5 7, 2 5 6 7", Check.event(object, 0) + ", "
                + Check.event(object, 28) + ", " + Check.event(object, 29));
        object.cut(7);
        check.equal("32: two are gone", "0 0 2 20, 2 5 7 7", Check.event(object, 0) + ", " + Check.event(object, 29));
    }

    @Sentence("The latest 30 events are kept, in their order.")
    void p14AllThirtyInTheirOrder(Check check) {
        StringBuilder due = new StringBuilder("0 0 2 20");
        for (int layer = 3; layer < 8; layer++) {
            due.append(", 0 0 ").append(layer).append(" 20");
        }
        for (int layer = 0; layer < 8; layer++) {
            due.append(", 0 1 ").append(layer).append(" 3");
        }
        for (int layer = 0; layer < 8; layer++) {
            due.append(", 1 1 ").append(layer).append(" 2");
        }
        for (int layer = 0; layer < 8; layer++) {
            due.append(", 2 5 ").append(layer).append(" 7");
        }
        check.equal("32 events, 30 of them kept", due.toString(), Check.events(withEvents(32)));
    }

    /** Eight layers open; 3, then 2 of the 12 lines of each tear; that is 24 events, the rest are cut away. */
    private static LayeredChute withEvents(int count) {
        LayeredChute object = Check.made("capsule 399 20 99;" + "layer 18 12 1 below 399 under 400;".repeat(8));
        for (int layer = 0; layer < 8; layer++) {
            object.open(layer);
        }
        object.tick(1);
        object.tick(1);
        for (int cut = 0; cut < count - 24; cut++) {
            object.cut(cut);
        }
        return object;
    }

    @Sentence("An event has the TIME at which it was (in a second: the TIME ahead of it), a kind, a chute (NONE for kind 6) and a number:")
    void p14TimeAheadOfTheSecond(Check check) {
        check.equal("the first second", "0 6 -1 3", Check.events(landed("")));
        LayeredChute object = Check.made("capsule 60 20 10;layer 1 1 9 below 60 under 400;");
        object.tick(1);
        object.open(0);
        object.tick(1);
        check.equal("by hand, and the landing in the second second", "1 0 0 30, 1 6 -1 3", Check.events(object));
    }

    @Sentence("Acts by hand make events, too.")
    void p14ByHand(Check check) {
        LayeredChute object = Check.made(StateTest.BUSY);
        object.open(0);
        object.open(1);
        object.openReserve();
        object.cut(0);
        check.equal("opened, jammed, cut away", "0 0 0 20, 0 3 1 20, 0 5 0 4", Check.events(object));
        object.open(2);
        object.open(3);
        object.openReserve();
        check.equal("the reserve", "0 4 5 1", Check.event(object, 5));
    }

    // ---- promise 15

    @Sentence("Throws `IllegalArgumentException` if what is out of range")
    void p15OutOfRange(Check check) {
        illegal(check, 10, (o, what) -> o.account(what));
    }

    @Sentence("0 acts that were done since this object was created (those that were undone count, too), 1 to 9 refusals with this reason")
    void p15UndoneActsCount(Check check) {
        LayeredChute object = busy();
        object.undo();
        object.undo();
        check.equal("7 acts, 2 undone", "7 0 0 0 0 0 0 0 0 0", Check.accounts(object));
        object.save(0);
        object.tick(1);
        object.restore(0);
        check.equal("one more, though the state is brought back", "8 0 0 0 0 0 0 0 0 0", Check.accounts(object));
    }

    @Sentence("0 acts that were done since this object was created (those that were undone count, too), 1 to 9 refusals with this reason")
    void p15EachReason(Check check) {
        LayeredChute object = new LayeredChute();
        check.equal("none", "0 0 0 0 0 0 0 0 0 0", Check.accounts(object));
        Check.load(object, "capsule 390 20 10;layer 1 1 9 below 389 under 400;layer 1 1 9 below 390 under 19;"
                + "layer 1 1 9 below 390 under 400 jammed;layer 1 1 9 below 390 under 400;"
                + "reserve 1 1 9 below 390 after 1;target 1 1;target 2 1;target 3 1;target 4 1;target 5 1;target 6 1;"
                + "target 7 1;target 8 1;");
        object.fallTo(390);
        object.open(0);
        object.open(1);
        object.openReserve();
        object.open(2);
        object.open(2);
        object.openReserve();
        object.cut(0);
        object.setTarget(9, 1);
        object.fallTo(0);
        object.tick(1);
        check.equal("each of them once, two acts", "2 1 1 1 1 1 1 1 1 1", Check.accounts(object));
        object.tick(1);
        check.equal("once more", "2 2 1 1 1 1 1 1 1 1", Check.accounts(object));
    }

    @Sentence("Acts are the methods from tick() to jam().")
    void p15NothingElseIsAnAct(Check check) {
        LayeredChute object = busy();
        object.write();
        object.save(0);
        object.restore(0);
        object.landIn();
        object.bestSlip(0);
        Check.outcome(o -> o.tick(0), object);
        Check.outcome(o -> o.open(9), object);
        Check.play(object, "");
        Check.play(object, "wait;");
        Check.load(object, "capsule 9 9 9;");
        check.equal("as many as ahead of it", "7 0 0 0 0 0 0 0 0 0", Check.accounts(object));
    }

    // ---- promise 16

    @Sentence("The capsule asks for brakes if there is a target at HEIGHT, and SPEED is greater than it.")
    void p16SpeedIsGreater(Check check) {
        check.equal("by one", true, Check.made("capsule 390 20 10;target 390 19;").asks());
        check.equal("the same", false, Check.made("capsule 390 20 10;target 390 20;").asks());
        check.equal("less", false, Check.made("capsule 390 20 10;target 390 21;").asks());
        check.equal("SPEED 0", false, Check.made("capsule 390 0 10;target 390 1;").asks());
    }

    @Sentence("The capsule asks for brakes if there is a target at HEIGHT, and SPEED is greater than it.")
    void p16ThereIsATarget(Check check) {
        check.equal("none", false, new LayeredChute().asks());
        check.equal("only below HEIGHT", false, Check.made("capsule 390 20 10;target 389 1;").asks());
        check.equal("above HEIGHT", true, Check.made("capsule 390 20 10;target 391 1;").asks());
        check.equal("the least one above counts", false, Check.made("capsule 390 20 10;target 400 1;target 391 20;").asks());
    }

    @Sentence("Returns whether the capsule asks for brakes now (also if it has landed).")
    void p16Landed(Check check) {
        check.equal("SPEED 30 at a target of 29", true, landed("target 1 29;").asks());
        check.equal("at a target of 30", false, landed("target 1 30;").asks());
        check.equal("without targets", false, landed("").asks());
    }

    // ---- promises 19 and 20

    @Sentence("Throws `IndexOutOfBoundsException` if there is no such chute")
    void p19NoSuchChute(Check check) {
        bounds(check, 6, (o, number) -> o.loadOn(number));
        check.equal("without chutes", BOUNDS, Check.outcome(o -> o.loadOn(0), new LayeredChute()));
    }

    @Sentence("before any line tears; 0 if it is not open.")
    void p19NotOpen(Check check) {
        LayeredChute object = busy();
        check.equal("jammed, cut away, packed", "0 0 0", object.loadOn(1) + " " + object.loadOn(3) + " "
                + object.loadOn(4));
        check.equal("torn", 0, torn().loadOn(0));
        check.equal("open, the reserve too", "7 2", object.loadOn(0) + " " + object.loadOn(5));
    }

    @Sentence("divided by the number of its lines that are there, and rounded up.")
    void p19RoundedUp(Check check) {
        int[] lines = {1, 3, 4, 12};
        int[] due = {40, 14, 10, 4};
        for (int i = 0; i < lines.length; i++) {
            check.equal("PULL 40 on " + lines[i], due[i], opened("10 " + lines[i] + " 9999", 20).loadOn(0));
        }
        check.equal("PULL 0", 0, opened("99 12 9999", 0).loadOn(0));
        check.equal("PULL 1 on 12", 1, opened("1 12 9999", 10).loadOn(0));
        check.equal("PULL is cut", 1, opened("1 1 9999", 14).loadOn(0));
        LayeredChute greatest = opened("99 1 9999", 400);
        check.equal("the greatest PULL", 158400, greatest.loadOn(0));
        greatest.steer(9);
        check.equal("the greatest LOAD", 229680, greatest.loadOn(0));
    }

    @Sentence("with AIR, SPEED, SLIP and the lines as they are now, before any line tears")
    void p19AsTheyAreNow(Check check) {
        int[] slips = {0, 1, -1, 9, -9};
        int[] due = {10, 11, 11, 15, 15};
        for (int i = 0; i < slips.length; i++) {
            LayeredChute object = opened("10 4 1", 20);
            object.steer(slips[i]);
            check.equal("SLIP " + slips[i], due[i], object.loadOn(0));
        }
        LayeredChute object = opened("1 1 44", 65);
        object.steer(1);
        check.equal("the quotient by 100 is cut", 44, object.loadOn(0));
        LayeredChute high = Check.made("capsule 400 20 10;layer 10 1 1 below 400 under 400;");
        high.open(0);
        check.equal("AIR 99", 39, high.loadOn(0));
        check.equal("9 of 12 lines, SPEED 17", 6, busy().loadOn(2));
    }

    /** Below 400 metres, with one layer, which is open. */
    private static LayeredChute opened(String layer, int speed) {
        LayeredChute object = Check.made("capsule 390 " + speed + " 10;layer " + layer + " below 390 under 400;");
        object.open(0);
        return object;
    }

    @Sentence("Throws `IndexOutOfBoundsException` if there is no such chute")
    void p20NoSuchChute(Check check) {
        bounds(check, 6, (o, number) -> o.wouldTear(number));
        check.equal("without chutes", BOUNDS, Check.outcome(o -> o.wouldTear(0), new LayeredChute()));
    }

    @Sentence("Returns how many of its lines would tear in (2) of section 2, all together, with AIR, SPEED, SLIP and HEAT as they are now; 0 if it is not open.")
    void p20NotOpen(Check check) {
        String weak = "capsule 390 20 10;layer 99 4 1 below 390 under 400;layer 99 4 1 below 390 under 400 jammed;";
        LayeredChute object = Check.made(weak);
        check.equal("packed", 0, object.wouldTear(0));
        object.open(1);
        check.equal("jammed", 0, object.wouldTear(1));
        object.open(0);
        check.equal("open", 4, object.wouldTear(0));
        object.cut(0);
        check.equal("cut away", 0, object.wouldTear(0));
        check.equal("torn", 0, torn().wouldTear(0));
    }

    @Sentence("Returns how many of its lines would tear in (2) of section 2, all together, with AIR, SPEED, SLIP and HEAT as they are now; 0 if it is not open.")
    void p20AllTogether(Check check) {
        check.equal("3 of 12, in two rounds", 3, opened("18 12 1", 20).wouldTear(0));
        check.equal("all 4, in three rounds", 4, opened("10 4 9", 20).wouldTear(0));
        check.equal("all 4 at once", 4, opened("99 4 1", 20).wouldTear(0));
        check.equal("none: the strength is LOAD", 0, opened("10 4 10", 20).wouldTear(0));
        LayeredChute object = opened("18 12 1", 20);
        object.tick(1);
        object.steer(2);
        check.equal("only those that are there now", 1, object.wouldTear(0));
    }

    @Sentence("Returns how many of its lines would tear in (2) of section 2, all together, with AIR, SPEED, SLIP and HEAT as they are now; 0 if it is not open.")
    void p20SlipAndHeat(Check check) {
        LayeredChute object = opened("10 4 10", 20);
        object.steer(-9);
        check.equal("SLIP", 4, object.wouldTear(0));
        // HEAT 140 and LOAD 1407 behind a second; 1637 * 860 / 1000 is 1407.
        LayeredChute hot = Check.made("capsule 1199 400 99;cool 0;layer 1 1 1637 below 1199 under 400;"
                + "layer 1 1 1636 below 1199 under 400;");
        hot.tick(1);
        hot.open(0);
        hot.open(1);
        check.equal("HEAT and LOAD", "140 1407", hot.capsule(4) + " " + hot.loadOn(0));
        check.equal("just holds, just tears", "0 1", hot.wouldTear(0) + " " + hot.wouldTear(1));
    }

    // ---- promises 21 and 22

    @Sentence("both converted to float; 0.0f without chutes.")
    void p21WithoutChutes(Check check) {
        check.equal("none", 0.0f, new LayeredChute().share());
        check.equal("but for a reserve", 1.0f, Check.made("capsule 9 9 9;reserve 1 3 1 below 1 after 1;").share());
    }

    @Sentence("Returns the lines that are there, of chutes that are not cut away, divided by the lines of all chutes, both converted to float; 0.0f without chutes.")
    void p21FromAllToNone(Check check) {
        LayeredChute object = Check.made("capsule 390 20 10;layer 1 1 99 below 390 under 400;"
                + "layer 1 2 99 below 390 under 400;");
        check.equal("all", 1.0f, object.share());
        object.open(1);
        object.cut(1);
        check.equal("a third, as a float", 1.0f / 3.0f, object.share());
        object.open(0);
        object.cut(0);
        check.equal("all are cut away", 0.0f, object.share());
        check.equal("all tore", 0.0f, torn().share());
        check.equal("jammed ones are there", 21.0f / 27.0f, busy().share());
    }

    @Sentence("both converted to double; 0.0 if TIME is 0.")
    void p22TimeIs0(Check check) {
        check.equal("a new object", 0.0, new LayeredChute().meanSpeed());
        LayeredChute object = new LayeredChute();
        object.tick(3);
        Check.load(object, "capsule 900 60 10;");
        check.equal("a new setup", 0.0, object.meanSpeed());
    }

    @Sentence("Returns the metres fallen since the setup divided by TIME, both converted to double; 0.0 if TIME is 0.")
    void p22MetresByTime(Check check) {
        LayeredChute object = Check.made("capsule 70 20 10;");
        object.tick(1);
        check.equal("30 by 1", 30.0, object.meanSpeed());
        object.tick(1);
        check.equal("69 by 2", 34.5, object.meanSpeed());
        object.tick(1);
        check.equal("70 by 3, as a double", 70.0 / 3.0, object.meanSpeed());
        object.setTarget(1, 1);
        check.equal("landed", 70.0 / 3.0, object.meanSpeed());
    }
}
