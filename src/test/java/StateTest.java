/** Promises 7 to 22: what there is. AIR is 100 below 400 metres. */
public class StateTest {
    static final String BUSY = "capsule 390 20 10;"
            + "layer 10 4 9999 below 390 under 20;"
            + "layer 9 2 8 below 390 under 20 jammed;"
            + "layer 18 12 1 below 390 under 400;"
            + "layer 7 3 9999 below 390 under 400;"
            + "layer 5 1 9999 below 100 under 10;"
            + "reserve 3 5 50 below 390 after 1;"
            + "target 390 25;target 200 10;wind 0 -3;wind 300 4;spot -9 -1 30;spot 0 20 40;spot 7 7 1;cool 7;";

    private final Check check = new Check("StateTest");

    public static void main(String[] arguments) {
        StateTest test = new StateTest();
        test.capsule();
        test.size();
        test.chute();
        test.line();
        test.targetAt();
        test.windAt();
        test.spot();
        test.event();
        test.account();
        test.asks();
        test.why();
        test.whyReserve();
        test.loadOn();
        test.wouldTear();
        test.shareAndMeanSpeed();
        test.askingChangesNothing();
        test.check.end();
    }

    /** Chutes 0, 2 and the reserve (5) are open, 1 was jammed, 3 is cut away, 4 is packed; 3 lines of 2 tore. */
    static LayeredChute busy() {
        LayeredChute object = Check.made(BUSY);
        object.open(0);
        object.open(1);
        object.open(2);
        object.open(3);
        object.cut(3);
        object.openReserve();
        object.tick(1);
        return object;
    }

    private void illegal(String what, Check.Call call) {
        check.thrown(what, IllegalArgumentException.class, StateTest::busy, call);
    }

    private void bounds(String what, Check.Call call) {
        check.thrown(what, IndexOutOfBoundsException.class, StateTest::busy, call);
    }

    private void capsule() {
        LayeredChute object = Check.made("capsule 12000 400 99;wind 0 4;layer 1 1 9999 below 30000 under 400;");
        check.equal("P7 at first", "12000 400 0 99 0 0 0 70 0", Check.capsule(object));
        object.open(0);
        object.steer(-3);
        object.tick(1);
        check.equal("P7 behind a second", "11623 377 1 99 79 -3 1 71 0", Check.capsule(object));
        object.fallTo(0);
        check.equal("P7 landed", "0 100 3", object.capsule(0) + " " + object.capsule(7) + " " + object.capsule(8));
        check.equal("P7 AIR at 399", 100, Check.made("capsule 399 0 1;").capsule(7));
        check.equal("P7 AIR at 400", 99, Check.made("capsule 400 0 1;").capsule(7));
        check.equal("P7 AIR at 30000", 25, Check.made("capsule 30000 0 1;").capsule(7));
        for (int what : new int[] {-1, 9, Integer.MIN_VALUE, Integer.MAX_VALUE}) {
            illegal("P7 capsule " + what, o -> o.capsule(what));
        }
    }

    private void size() {
        LayeredChute object = busy();
        check.equal("P8 the fall", "373 17 4 0 1", Check.fall(object));
        check.equal("P8 everything", "5 1 2 2 3 7 3 1 7 7 27 21 3 3 17 0", Check.sizes(object));
        object.cut(2);
        check.equal("P8 a chute cut away of which lines tore", "5 1 2 2 3 7 2 1 8 8 27 12 3 12 17 0", Check.sizes(object));
        object.cut(0);
        object.cut(5);
        check.equal("P8 all are cut away", "5 1 2 2 3 7 0 1 10 8 27 3 3 21 17 0", Check.sizes(object));
        check.equal("P8 a new object", "0 0 0 0 0 20 0 0 0 0 0 0 0 0 0 0", Check.sizes(new LayeredChute()));
        LayeredChute torn = Check.made("capsule 399 20 10;layer 99 4 1 below 399 under 400;layer 9 9 9 below 399"
                + " under 400 jammed;reserve 99 3 1 below 399 after 1;");
        torn.open(0);
        torn.open(1);
        torn.openReserve();
        torn.tick(1);
        check.equal("P8 only layers count as failed", "2 1 0 0 0 20 0 2 7 4 16 9 7 0 30 0", Check.sizes(torn));
        String layer = "layer 1 1 9 below 390 under 400 jammed;";
        LayeredChute many = Check.made("capsule 390 20 10;" + layer.repeat(8));
        for (int number = 0; number < 8; number++) {
            many.open(number);
            check.equal("P8 failed layers", number + 1, many.size(7));
        }
        many.setTarget(390, 1);
        check.equal("P8 eight layers and no more", 1, many.tick(1));
        Check.load(many, "capsule 390 20 10;" + layer.repeat(3));
        check.equal("P8 none of the earlier setup", "0 0 3", many.size(7) + " " + many.size(12) + " " + many.size(0));
        check.equal("P39 none of the earlier setup", 3, many.jam(0, true));
        LayeredChute hot = Check.made("capsule 12000 400 99;");
        hot.tick(1);
        int gain = hot.size(15);
        hot.tick(1);
        check.equal("P8 GAINs since the setup", gain + hot.capsule(1) * hot.capsule(1) * 71 / 100000, hot.size(15));
        check.equal("P8 metres since the setup", 12000 - hot.capsule(0), hot.size(14));
        Check.load(hot, "capsule 399 20 10;");
        check.equal("P8 a new setup", "0 0 0 0 0 20 0 0 0 0 0 0 0 0 0 0", Check.sizes(hot));
        for (int what : new int[] {-1, 16, Integer.MIN_VALUE, Integer.MAX_VALUE}) {
            illegal("P8 size " + what, o -> o.size(what));
        }
    }

    private void chute() {
        LayeredChute object = busy();
        check.equal("P9 open", "10 4 9999 390 20 1 4 0", Check.chute(object, 0));
        check.equal("P9 jammed", "9 2 8 390 20 3 2 1", Check.chute(object, 1));
        check.equal("P9 some lines tore", "18 12 1 390 400 1 9 0", Check.chute(object, 2));
        check.equal("P9 cut away", "7 3 9999 390 400 4 0 0", Check.chute(object, 3));
        check.equal("P9 packed", "5 1 9999 100 10 0 1 0", Check.chute(object, 4));
        check.equal("P9 the reserve, open", "3 5 50 390 1 1 5 0", Check.chute(object, 5));
        object.jam(4, true);
        check.equal("P9 jammed by hand", 1, object.chute(4, 7));
        object.cut(2);
        check.equal("P9 cut away behind tearing", "18 12 1 390 400 4 0 0", Check.chute(object, 2));
        LayeredChute packed = Check.made(BUSY);
        check.equal("P9 jammed, packed", "9 2 8 390 20 0 2 1", Check.chute(packed, 1));
        check.equal("P9 the reserve, packed", "3 5 50 390 1 0 5 0", Check.chute(packed, 5));
        LayeredChute torn = Check.made("capsule 399 20 10;layer 99 4 1 below 399 under 400;");
        torn.open(0);
        torn.tick(1);
        check.equal("P9 failed because all its lines tore", "99 4 1 399 400 2 0 0", Check.chute(torn, 0));
        for (int number : new int[] {-1, 6, Integer.MIN_VALUE, Integer.MAX_VALUE}) {
            bounds("P9 chute " + number, o -> o.chute(number, 0));
            bounds("P9 chute " + number + " comes ahead of what", o -> o.chute(number, 8));
        }
        for (int what : new int[] {-1, 8, Integer.MIN_VALUE, Integer.MAX_VALUE}) {
            illegal("P9 what " + what, o -> o.chute(5, what));
        }
        check.equal("P9 without a reserve", "IndexOutOfBoundsException", Check.outcome(o -> o.chute(1, 0), torn));
        check.equal("P9 without chutes", "IndexOutOfBoundsException",
                Check.outcome(o -> o.chute(0, 0), new LayeredChute()));
    }

    private void line() {
        LayeredChute object = busy();
        check.equal("P10 all there", "9999 10002 10005 10008", Check.lines(object, 0));
        check.equal("P10 jammed", "8 11", Check.lines(object, 1));
        check.equal("P10 some tore", "-1 -1 -1 10 13 16 19 22 25 28 31 34", Check.lines(object, 2));
        check.equal("P10 cut away", "9999 10002 10005", Check.lines(object, 3));
        check.equal("P10 packed", "9999", Check.lines(object, 4));
        check.equal("P10 the reserve", "50 53 56 59 62", Check.lines(object, 5));
        object.cut(2);
        check.equal("P10 some tore, then cut away", "-1 -1 -1 10 13 16 19 22 25 28 31 34", Check.lines(object, 2));
        LayeredChute torn = Check.made("capsule 399 20 10;layer 99 4 1 below 399 under 400;");
        torn.open(0);
        torn.tick(1);
        check.equal("P10 all tore", "-1 -1 -1 -1", Check.lines(torn, 0));
        LayeredChute hot = Check.made("capsule 12000 400 99;layer 99 1 7 below 399 under 400;");
        hot.tick(1);
        check.equal("P10 HEAT does not change it", 7, hot.line(0, 0));
        for (int number : new int[] {-1, 6, Integer.MIN_VALUE, Integer.MAX_VALUE}) {
            bounds("P10 chute " + number, o -> o.line(number, 0));
        }
        for (int number : new int[] {-1, 4, Integer.MIN_VALUE, Integer.MAX_VALUE}) {
            bounds("P10 line " + number, o -> o.line(0, number));
        }
        bounds("P10 a line of a chute that is cut away", o -> o.line(3, 3));
    }

    private void targetAt() {
        LayeredChute object = Check.made("capsule 900 20 10;target 390 25;target 30000 9;target 200 10;");
        int[] heights = {0, 199, 200, 201, 389, 390, 391, 29999, 30000};
        int[] due = {10, 10, 10, 25, 25, 25, 9, 9, 9};
        for (int i = 0; i < heights.length; i++) {
            check.equal("P11 the target at " + heights[i], due[i], object.targetAt(heights[i]));
        }
        check.equal("P11 above all of them", -1, busy().targetAt(391));
        check.equal("P11 far above", -1, busy().targetAt(30000));
        check.equal("P11 without targets", -1, new LayeredChute().targetAt(0));
        for (int height : new int[] {-1, 30001, Integer.MIN_VALUE, Integer.MAX_VALUE}) {
            illegal("P11 height " + height, o -> o.targetAt(height));
        }
    }

    private void windAt() {
        LayeredChute object = Check.made("capsule 900 20 10;wind 300 4;wind 100 -40;wind 30000 40;");
        int[] heights = {0, 99, 100, 101, 299, 300, 301, 29999, 30000};
        int[] due = {0, 0, -40, -40, -40, 4, 4, 4, 40};
        for (int i = 0; i < heights.length; i++) {
            check.equal("P12 the wind at " + heights[i], due[i], object.windAt(heights[i]));
        }
        check.equal("P12 a wind at 0", -3, busy().windAt(0));
        check.equal("P12 without winds", 0, new LayeredChute().windAt(30000));
        for (int height : new int[] {-1, 30001, Integer.MIN_VALUE, Integer.MAX_VALUE}) {
            illegal("P12 height " + height, o -> o.windAt(height));
        }
    }

    private void spot() {
        LayeredChute object = busy();
        int[][] due = {{-9, -1, 30}, {0, 20, 40}, {7, 7, 1}};
        for (int spot = 0; spot < 3; spot++) {
            for (int what = 0; what < 3; what++) {
                check.equal("P13 spot " + spot + ", " + what, due[spot][what], object.spot(spot, what));
            }
        }
        for (int number : new int[] {-1, 3, Integer.MIN_VALUE, Integer.MAX_VALUE}) {
            bounds("P13 spot " + number, o -> o.spot(number, 0));
            bounds("P13 spot " + number + " comes ahead of what", o -> o.spot(number, 3));
            illegal("P13 what " + number, o -> o.spot(0, number));
        }
        check.equal("P13 without spots", "IndexOutOfBoundsException",
                Check.outcome(o -> o.spot(0, 0), new LayeredChute()));
    }

    private void event() {
        LayeredChute object = busy();
        check.equal("P14 all kinds but the rest", "0 0 0 20, 0 3 1 20, 0 0 2 20, 0 0 3 20, 0 5 3 3, 0 4 5 1, 0 1 2 3",
                Check.events(object));
        object.fallTo(0);
        check.equal("P14 the landing has no chute", "6 -1", object.event(object.size(8) - 1, 1) + " "
                + object.event(object.size(8) - 1, 2));
        for (int index : new int[] {-1, 7, Integer.MIN_VALUE, Integer.MAX_VALUE}) {
            check.thrown("P14 event " + index, java.util.NoSuchElementException.class, StateTest::busy,
                    o -> o.event(index, 0));
            check.thrown("P14 event " + index + " comes ahead of what", java.util.NoSuchElementException.class,
                    StateTest::busy, o -> o.event(index, 4));
        }
        for (int what : new int[] {-1, 4, Integer.MIN_VALUE, Integer.MAX_VALUE}) {
            illegal("P14 what " + what, o -> o.event(0, what));
        }
        check.equal("P14 without events", "NoSuchElementException",
                Check.outcome(o -> o.event(0, 0), new LayeredChute()));
    }

    private void account() {
        LayeredChute object = busy();
        check.equal("P15 acts that were done", "7 0 0 0 0 0 0 0 0 0", Check.accounts(object));
        object.fallTo(373);
        object.jam(0, true);
        object.open(4);
        object.setTarget(1, 1);
        object.undo();
        object.undo();
        check.equal("P15 acts that were undone count", "8 0 1 1 1 0 0 0 0 0", Check.accounts(object));
        Check.outcome(o -> o.tick(0), object);
        object.landIn();
        check.equal("P15 exceptions and foretelling do not", "8 0 1 1 1 0 0 0 0 0", Check.accounts(object));
        Check.load(object, "capsule 50 20 10;layer 1 1 1 below 30000 under 20;layer 1 1 1 below 30000 under 19;"
                + "reserve 1 1 1 below 30000 after 1;");
        object.open(1);
        object.openReserve();
        object.cut(0);
        object.jam(0, true);
        object.open(0);
        Check.load(object, "capsule 50 20 10;layer 1 1 1 below 30000 under 20 jammed;layer 1 1 1 below 30000 under 20;"
                + "reserve 1 1 1 below 30000 after 1;");
        object.open(0);
        object.openReserve();
        for (int height = 1; height <= 9; height++) {
            object.setTarget(height, 1);
        }
        object.fallTo(0);
        object.tick(1);
        object.tick(1);
        check.equal("P15 each reason", "20 2 1 1 1 1 1 1 1 1", Check.accounts(object));
        for (int what : new int[] {-1, 10, Integer.MIN_VALUE, Integer.MAX_VALUE}) {
            illegal("P15 account " + what, o -> o.account(what));
        }
    }

    private void asks() {
        check.equal("P16 SPEED is greater", true, Check.made("capsule 390 20 10;target 390 19;").asks());
        check.equal("P16 SPEED is the same", false, Check.made("capsule 390 20 10;target 390 20;").asks());
        check.equal("P16 the target is lower", false, Check.made("capsule 390 20 10;target 389 1;").asks());
        check.equal("P16 the least target that is not less", false,
                Check.made("capsule 390 20 10;target 400 1;target 391 20;target 389 1;").asks());
        check.equal("P16 without targets", false, new LayeredChute().asks());
        LayeredChute landed = Check.made("capsule 30 20 10;target 5 29;");
        landed.tick(1);
        check.equal("P16 it has landed", true, landed.asks());
        landed.setTarget(1, 30);
        check.equal("P16 it has landed at the speed of the target", false, landed.asks());
    }

    private void why() {
        LayeredChute object = busy();
        check.equal("P17 open", 0, object.why(0));
        check.equal("P17 it was jammed", 2, object.why(1));
        check.equal("P17 open, with lines that tore", 0, object.why(2));
        check.equal("P17 cut away", 3, object.why(3));
        check.equal("P17 too high comes ahead of too fast", 4, object.why(4));
        LayeredChute packed = Check.made("capsule 390 20 10;layer 1 1 1 below 389 under 400;"
                + "layer 1 1 1 below 390 under 19;layer 1 1 1 below 390 under 20 jammed;layer 1 1 1 below 390 under 20;"
                + "layer 1 1 1 below 390 under 20 jammed;");
        check.equal("P17 not asked for", "4 5 6 6 6", Check.whys(packed));
        packed.setTarget(390, 19);
        check.equal("P17 asked for", "4 5 8 7 7", Check.whys(packed));
        packed.open(2);
        check.equal("P17 asked for, the first has failed", "4 5 2 8 7", Check.whys(packed));
        packed.tick(1);
        check.equal("P17 its lines tore", 1, packed.why(3));
        for (int layer : new int[] {-1, 5, 6, Integer.MIN_VALUE, Integer.MAX_VALUE}) {
            bounds("P17 layer " + layer, o -> o.why(layer));
        }
    }

    private void whyReserve() {
        check.equal("P18 there is none", 1, new LayeredChute().whyReserve());
        check.equal("P18 open", 0, busy().whyReserve());
        LayeredChute cut = busy();
        cut.cut(5);
        check.equal("P18 cut away", 2, cut.whyReserve());
        String layers = "capsule 390 20 10;layer 1 1 1 below 390 under 400 jammed;layer 1 1 1 below 390 under 20;";
        LayeredChute object = Check.made(layers + "reserve 99 9 1 below 389 after 1;");
        check.equal("P18 too high comes ahead of too few", 3, object.whyReserve());
        object = Check.made(layers + "reserve 99 9 1 below 390 after 1;");
        check.equal("P18 too few comes ahead of a layer", 4, object.whyReserve());
        object.open(0);
        check.equal("P18 a layer may open", 5, object.whyReserve());
        object.open(1);
        check.equal("P18 not asked for", 6, object.whyReserve());
        object.setTarget(390, 19);
        check.equal("P18 none of these", 7, object.whyReserve());
        object.tick(1);
        check.equal("P18 its lines tore", 2, object.whyReserve());
    }

    private void loadOn() {
        LayeredChute object = busy();
        check.equal("P19 PULL 28 on 4 lines", 7, object.loadOn(0));
        check.equal("P19 jammed", 0, object.loadOn(1));
        check.equal("P19 PULL 52 on 9 lines", 6, object.loadOn(2));
        check.equal("P19 cut away", 0, object.loadOn(3));
        check.equal("P19 packed", 0, object.loadOn(4));
        check.equal("P19 PULL 8 on 5 lines", 2, object.loadOn(5));
        object.steer(-9);
        check.equal("P19 28 becomes 40", 10, object.loadOn(0));
        check.equal("P19 52 becomes 75", 9, object.loadOn(2));
        LayeredChute high = Check.made("capsule 20000 400 10;layer 99 12 1 below 30000 under 400;");
        high.open(0);
        check.equal("P19 ahead of any tearing", 99 * 50 * 16 / 12, high.loadOn(0));
        for (int number : new int[] {-1, 6, Integer.MIN_VALUE, Integer.MAX_VALUE}) {
            bounds("P19 chute " + number, o -> o.loadOn(number));
        }
    }

    private void wouldTear() {
        LayeredChute object = Check.made("capsule 390 20 10;layer 18 12 1 below 390 under 400;"
                + "layer 99 4 1 below 390 under 400;layer 10 4 10 below 390 under 400;layer 99 9 1 below 390 under 400;");
        object.open(0);
        object.open(1);
        object.open(2);
        check.equal("P20 3 of 12 lines", 3, object.wouldTear(0));
        check.equal("P20 all lines", 4, object.wouldTear(1));
        check.equal("P20 no line", 0, object.wouldTear(2));
        check.equal("P20 packed", 0, object.wouldTear(3));
        check.equal("P20 nothing tears by asking", 12, object.chute(0, 6));
        object.steer(9);
        check.equal("P20 SLIP counts", "4 4 4", object.wouldTear(0) + " " + object.wouldTear(1) + " "
                + object.wouldTear(2));
        object.tick(1);
        check.equal("P20 as foretold", "4 4 4", 12 - object.chute(0, 6) + " " + (4 - object.chute(1, 6)) + " "
                + (4 - object.chute(2, 6)));
        check.equal("P20 those that tore already do not count", 0, object.wouldTear(1));
        check.equal("P20 only those that would tear now", 1, tornAlready().wouldTear(0));
        LayeredChute hot = Check.made("capsule 1199 400 99;cool 0;layer 1 1 1637 below 1199 under 400;"
                + "layer 1 1 1636 below 1199 under 400;");
        hot.tick(1);
        hot.open(0);
        hot.open(1);
        check.equal("P20 HEAT counts", "0 1", hot.wouldTear(0) + " " + hot.wouldTear(1));
        for (int number : new int[] {-1, 4, 6, Integer.MIN_VALUE, Integer.MAX_VALUE}) {
            check.equal("P20 chute " + number, "IndexOutOfBoundsException",
                    Check.outcome(o -> o.wouldTear(number), object));
        }
        bounds("P20 changes nothing", o -> o.wouldTear(6));
    }

    /** 3 of 12 lines tore at SPEED 20; at SPEED 22 PULL is 87, and SLIP 2 makes 95 of it: 11 on 9, 12 on 8 lines. */
    private static LayeredChute tornAlready() {
        LayeredChute object = Check.made("capsule 390 20 10;layer 18 12 1 below 390 under 400;");
        object.open(0);
        object.tick(1);
        object.steer(2);
        return object;
    }

    private void shareAndMeanSpeed() {
        LayeredChute object = busy();
        check.equal("P21 lines there", 21.0f / 27.0f, object.share());
        object.cut(2);
        check.equal("P21 without those cut away", 12.0f / 27.0f, object.share());
        check.equal("P21 without chutes", 0.0f, new LayeredChute().share());
        check.equal("P21 all are there", 1.0f, Check.made(BUSY).share());
        check.equal("P22 behind a second", 17.0, object.meanSpeed());
        check.equal("P22 TIME is 0", 0.0, Check.made(BUSY).meanSpeed());
        LayeredChute falling = new LayeredChute();
        falling.tick(7);
        check.equal("P22 behind seven", (double) (3000 - falling.capsule(0)) / 7.0, falling.meanSpeed());
        falling.fallTo(0);
        check.equal("P22 landed", 3000.0 / (double) falling.capsule(6), falling.meanSpeed());
    }

    private void askingChangesNothing() {
        LayeredChute object = busy();
        Check.sizes(object);
        Check.capsule(object);
        for (int chute = 0; chute < 6; chute++) {
            Check.chute(object, chute);
            Check.lines(object, chute);
            object.loadOn(chute);
            object.wouldTear(chute);
        }
        Check.whys(object);
        object.whyReserve();
        object.targetAt(9);
        object.windAt(9);
        object.spot(0, 0);
        object.event(0, 0);
        object.account(0);
        object.asks();
        object.share();
        object.meanSpeed();
        check.equal("P7 to P22 change nothing", Check.everything(busy()), Check.everything(object));
    }
}
