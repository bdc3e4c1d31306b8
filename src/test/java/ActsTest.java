/** Promises 32 to 39: the acts, their reasons and their exceptions. AIR is 100 below 400 metres. */
public class ActsTest {
    private static final String LAYERS = "capsule 390 20 10;"
            + "layer 10 4 9999 below 390 under 20;"
            + "layer 10 4 9999 below 390 under 20 jammed;"
            + "layer 10 4 9999 below 389 under 400;"
            + "layer 10 4 9999 below 390 under 19;"
            + "layer 10 4 9999 below 389 under 19;";

    private final Check check = new Check("ActsTest");

    public static void main(String[] arguments) {
        ActsTest test = new ActsTest();
        test.tick();
        test.fallTo();
        test.fallsLong();
        test.open();
        test.openReserve();
        test.cut();
        test.steer();
        test.setTarget();
        test.jam();
        test.refusalsChangeNothing();
        test.check.end();
    }

    private static LayeredChute layers() {
        return Check.made(LAYERS);
    }

    private static LayeredChute landed() {
        LayeredChute object = Check.made("capsule 390 20 10;layer 10 4 9999 below 390 under 20;"
                + "layer 10 4 9999 below 390 under 20;reserve 1 1 1 below 390 after 1;");
        object.open(0);
        object.fallTo(0);
        return object;
    }

    private void illegal(String what, Check.Call call) {
        check.thrown(what, IllegalArgumentException.class, ActsTest::layers, call);
        check.thrown(what + ", also when it has landed", IllegalArgumentException.class, ActsTest::landed, call);
    }

    private void bounds(String what, Check.Call call) {
        check.thrown(what, IndexOutOfBoundsException.class, ActsTest::layers, call);
        check.thrown(what + ", also when it has landed", IndexOutOfBoundsException.class, ActsTest::landed, call);
    }

    /** Refused with this reason: it is counted, and nothing else is different. */
    private void refused(String what, int reason, LayeredChute object, Check.Call call) {
        String brief = Check.brief(object);
        int before = object.account(reason);
        check.equal(what, "-" + reason, Check.outcome(call, object));
        check.equal(what + ": is counted", before + 1, object.account(reason));
        check.equal(what + ": changes nothing", brief, Check.brief(object));
    }

    private void tick() {
        LayeredChute object = new LayeredChute();
        LayeredChute twin = new LayeredChute();
        check.equal("P32 five seconds", 5, object.tick(5));
        for (int i = 0; i < 5; i++) {
            check.equal("P32 one second", 1, twin.tick(1));
        }
        check.equal("P32 five are five times one", Check.world(twin), Check.world(object));
        check.equal("P32 each tick is one act", "1 5", object.size(9) + " " + twin.size(9));
        int left = object.landIn();
        check.equal("P32 until it lands", left, object.tick(200));
        check.equal("P32 landed", 0, object.capsule(0));
        refused("P32 it has landed", 1, object, o -> o.tick(1));
        check.equal("P32 just so many", 1, Check.made("capsule 30 20 10;").tick(1));
        check.equal("P32 it lands ahead of them", 1, Check.made("capsule 30 20 10;").tick(2));
        check.equal("P32 one metre is left ahead of the last one", 2, Check.made("capsule 31 20 10;").tick(200));
        LayeredChute high = Check.made("capsule 30000 0 1;");
        check.equal("P32 200 seconds", "200 200", high.tick(200) + " " + high.capsule(6));
        for (int seconds : new int[] {0, -1, 201, Integer.MIN_VALUE, Integer.MAX_VALUE}) {
            illegal("P32 seconds " + seconds, o -> o.tick(seconds));
        }
    }

    private void fallTo() {
        LayeredChute object = Check.made("capsule 390 20 10;");
        check.equal("P33 one second is enough", "1 360", object.fallTo(360) + " " + object.capsule(0));
        refused("P33 HEIGHT is the same", 2, object, o -> o.fallTo(360));
        refused("P33 HEIGHT is less", 2, object, o -> o.fallTo(30000));
        check.equal("P33 below by a second", "1 321", object.fallTo(359) + " " + object.capsule(0));
        check.equal("P33 several seconds", "2 223", object.fallTo(273) + " " + object.capsule(0));
        check.equal("P33 to the ground", object.landIn(), object.fallTo(0));
        check.equal("P33 it has landed", 0, object.capsule(0));
        refused("P33 landed comes ahead of HEIGHT", 1, object, o -> o.fallTo(0));
        refused("P33 landed", 1, object, o -> o.fallTo(30000));
        for (int height : new int[] {-1, 30001, Integer.MIN_VALUE, Integer.MAX_VALUE}) {
            illegal("P33 height " + height, o -> o.fallTo(height));
        }
    }

    private void fallsLong() {
        LayeredChute object = Check.made("capsule 30000 5 1;" + "layer 99 12 9999 below 30000 under 400;".repeat(8));
        for (int layer = 0; layer < 8; layer++) {
            object.open(layer);
        }
        check.equal("P33 3000 at most", "3000 3000", object.fallTo(0) + " " + object.capsule(6));
        check.equal("P33 it is above still", true, object.capsule(0) > 0);
        object.undo();
        for (int i = 0; i < 15; i++) {
            object.tick(200);
        }
        int height = object.capsule(0);
        for (int i = 0; i < 8; i++) {
            object.undo();
        }
        check.equal("P33 the rest of them", 1600, object.fallTo(height));
        check.equal("P33 to the same height", height, object.capsule(0));
    }

    private void open() {
        LayeredChute object = layers();
        check.equal("P34 not asked for", 1, object.open(0));
        check.equal("P34 open", "1 1", object.chute(0, 5) + " " + object.size(6));
        check.equal("P34 its event", "0 0 0 20", Check.events(object));
        check.equal("P34 jammed", 3, object.open(1));
        check.equal("P34 it has failed", "3 1", object.chute(1, 5) + " " + object.size(6));
        check.equal("P34 its event", "0 3 1 20", Check.event(object, 1));
        refused("P34 open already", 3, object, o -> o.open(0));
        refused("P34 jammed already", 3, object, o -> o.open(1));
        refused("P34 one metre above its CEILING", 4, object, o -> o.open(2));
        refused("P34 SPEED is one above its MOST", 5, object, o -> o.open(3));
        refused("P34 CEILING comes ahead of MOST", 4, object, o -> o.open(4));
        check.equal("P34 they are acts", "2 2", object.account(0) + " " + object.size(9));
        object.tick(1);
        check.equal("P34 HEIGHT and SPEED", "364 26", object.capsule(0) + " " + object.capsule(1));
        refused("P34 not packed comes ahead of MOST", 3, object, o -> o.open(0));
        check.equal("P34 low enough", 1, object.open(2));
        refused("P34 low enough, but too fast", 5, object, o -> o.open(4));
        object.cut(0);
        refused("P34 cut away", 3, object, o -> o.open(0));
        check.equal("P34 a layer with a lower number may open", 1,
                Check.made("capsule 390 20 10;layer 1 1 1 below 390 under 20;layer 1 1 1 below 390 under 20;").open(1));
        LayeredChute landed = landed();
        refused("P34 landed comes ahead of not packed", 1, landed, o -> o.open(0));
        refused("P34 landed comes ahead of MOST", 1, landed, o -> o.open(1));
        for (int layer : new int[] {-1, 5, Integer.MIN_VALUE, Integer.MAX_VALUE}) {
            bounds("P34 layer " + layer, o -> o.open(layer));
        }
        check.thrown("P34 the reserve is no layer", IndexOutOfBoundsException.class, ActsTest::landed, o -> o.open(2));
    }

    private void openReserve() {
        String jammed = "capsule 390 20 10;layer 1 1 1 below 390 under 400 jammed;"
                + "layer 1 1 1 below 390 under 400 jammed;layer 1 1 1 below 390 under 400;";
        LayeredChute object = Check.made(jammed + "reserve 3 4 5 below 390 after 2;");
        refused("P35 none has failed", 6, object, o -> o.openReserve());
        object.open(0);
        refused("P35 one has failed, and a layer may open", 6, object, o -> o.openReserve());
        object.open(1);
        refused("P35 a layer may open", 7, object, o -> o.openReserve());
        object.open(2);
        check.equal("P35 not asked for", 2, object.openReserve());
        check.equal("P35 open", "1 2", object.chute(3, 5) + " " + object.size(6));
        check.equal("P35 its event", "0 4 3 2", Check.event(object, 3));
        refused("P35 open already", 3, object, o -> o.openReserve());
        object.cut(3);
        refused("P35 cut away", 3, object, o -> o.openReserve());
        check.equal("P35 it is an act", 5, object.account(0));
        object = Check.made(jammed + "reserve 3 4 5 below 389 after 2;");
        refused("P35 one metre above its CEILING comes ahead of the failed ones", 4, object, o -> o.openReserve());
        object.open(0);
        object.open(1);
        refused("P35 CEILING comes ahead of a layer", 4, object, o -> o.openReserve());
        refused("P35 there is none", 3, new LayeredChute(), o -> o.openReserve());
        object = Check.made(jammed.replace("400", "19") + "reserve 3 4 5 below 390 after 1;");
        object.tick(1);
        refused("P35 no layer may open, but none has failed", 6, object, o -> o.openReserve());
        refused("P35 landed comes ahead of the rest", 1, landed(), o -> o.openReserve());
        LayeredChute none = new LayeredChute();
        none.fallTo(0);
        refused("P35 landed comes ahead of there being none", 1, none, o -> o.openReserve());
    }

    private void cut() {
        LayeredChute object = layers();
        object.open(0);
        object.open(1);
        refused("P36 jammed", 8, object, o -> o.cut(1));
        refused("P36 packed", 8, object, o -> o.cut(2));
        object.tick(1);
        object.open(2);
        check.equal("P36 one is open still", 1, object.cut(0));
        check.equal("P36 cut away", "4 0", object.chute(0, 5) + " " + object.chute(0, 6));
        check.equal("P36 its event", "1 5 0 4", Check.event(object, 3));
        refused("P36 cut away already", 8, object, o -> o.cut(0));
        check.equal("P36 none is open", 0, object.cut(2));
        check.equal("P36 they are acts", 6, object.account(0));
        LayeredChute torn = Check.made("capsule 390 20 10;layer 18 12 1 below 390 under 400;"
                + "layer 99 1 1 below 390 under 400;");
        torn.open(0);
        torn.open(1);
        torn.tick(1);
        refused("P36 all lines tore", 8, torn, o -> o.cut(1));
        torn.cut(0);
        check.equal("P36 the lines that are there", "1 5 0 9", Check.event(torn, torn.size(8) - 1));
        LayeredChute reserve = Check.made("capsule 390 20 10;layer 1 1 1 below 390 under 400 jammed;"
                + "reserve 3 4 5 below 390 after 1;");
        reserve.open(0);
        reserve.openReserve();
        check.equal("P36 the reserve", "0 4", reserve.cut(1) + " " + reserve.chute(1, 5));
        refused("P36 landed comes ahead of not open", 1, landed(), o -> o.cut(1));
        refused("P36 landed, open", 1, landed(), o -> o.cut(0));
        for (int chute : new int[] {-1, 5, Integer.MIN_VALUE, Integer.MAX_VALUE}) {
            bounds("P36 chute " + chute, o -> o.cut(chute));
        }
    }

    private void steer() {
        LayeredChute object = layers();
        refused("P37 no chute is open", 8, object, o -> o.steer(1));
        object.open(0);
        check.equal("P37 from 0", 9, object.steer(-9));
        check.equal("P37 from -9", "0 9", object.steer(9) + " " + object.capsule(5));
        check.equal("P37 from 9", "18 9", object.steer(9) + " " + object.capsule(5));
        check.equal("P37 they are acts", "4 4", object.account(0) + " " + object.size(9));
        object.cut(0);
        check.equal("P37 it stays", 9, object.capsule(5));
        refused("P37 no chute is open any more", 8, object, o -> o.steer(0));
        refused("P37 landed comes first", 1, landed(), o -> o.steer(0));
        LayeredChute none = new LayeredChute();
        none.fallTo(0);
        refused("P37 landed comes ahead of none open", 1, none, o -> o.steer(0));
        for (int slip : new int[] {-10, 10, Integer.MIN_VALUE, Integer.MAX_VALUE}) {
            illegal("P37 slip " + slip, o -> o.steer(slip));
        }
    }

    private void setTarget() {
        LayeredChute object = layers();
        check.equal("P38 the first one", 1, object.setTarget(390, 20));
        check.equal("P38 it does not ask", "20 false", object.targetAt(390) + " " + object.asks());
        check.equal("P38 another speed", 1, object.setTarget(390, 19));
        check.equal("P38 it asks", "19 true", object.targetAt(390) + " " + object.asks());
        check.equal("P38 the least height", "2 400", object.setTarget(1, 400) + " " + object.targetAt(1));
        check.equal("P38 the greatest height", "3 1", object.setTarget(30000, 1) + " " + object.targetAt(30000));
        for (int count = 4; count <= 8; count++) {
            check.equal("P38 more of them", count, object.setTarget(100 * count, 5));
        }
        refused("P38 there are 8 others", 9, object, o -> o.setTarget(7, 7));
        check.equal("P38 one of the 8", "8 33", object.setTarget(400, 33) + " " + object.targetAt(399));
        check.equal("P38 the same again", 8, object.setTarget(400, 33));
        check.equal("P38 they are acts", "11 8", object.account(0) + " " + object.size(9));
        LayeredChute landed = landed();
        check.equal("P38 also when it has landed", "1 9", landed.setTarget(5, 9) + " " + landed.targetAt(0));
        for (int number : new int[] {0, -1, Integer.MIN_VALUE, Integer.MAX_VALUE}) {
            illegal("P38 height " + number, o -> o.setTarget(number, 5));
            illegal("P38 speed " + number, o -> o.setTarget(5, number));
        }
        illegal("P38 height 30001", o -> o.setTarget(30001, 5));
        illegal("P38 speed 401", o -> o.setTarget(5, 401));
        check.equal("P38 exceptions come ahead of reasons", "IllegalArgumentException",
                Check.outcome(o -> o.setTarget(7, 401), object));
    }

    private void jam() {
        LayeredChute object = layers();
        check.equal("P39 one more", 2, object.jam(0, true));
        check.equal("P39 jammed", 1, object.chute(0, 7));
        check.equal("P39 it is so already", 2, object.jam(0, true));
        check.equal("P39 one less", 1, object.jam(0, false));
        check.equal("P39 not jammed", "0 0", object.chute(0, 7) + " " + object.chute(0, 5));
        check.equal("P39 it is not so already", 1, object.jam(0, false));
        check.equal("P39 they are acts", "4 4", object.account(0) + " " + object.size(9));
        check.equal("P39 the other one", 0, object.jam(1, false));
        check.equal("P39 it opens now", 1, object.open(1));
        refused("P39 open", 3, object, o -> o.jam(1, true));
        object.jam(0, true);
        object.jam(4, true);
        check.equal("P39 it does not open now", 3, object.open(0));
        refused("P39 it was jammed", 3, object, o -> o.jam(0, false));
        check.equal("P39 only packed ones are counted", 2, object.jam(3, true));
        check.equal("P39 it is jammed still", 1, object.chute(0, 7));
        object.cut(1);
        refused("P39 cut away", 3, object, o -> o.jam(1, true));
        check.equal("P39 nothing of it is an event", "0 0 1 20, 0 3 0 20, 0 5 1 4", Check.events(object));
        LayeredChute landed = landed();
        check.equal("P39 also when it has landed", 1, landed.jam(1, true));
        refused("P39 landed, open", 3, landed, o -> o.jam(0, true));
        for (int layer : new int[] {-1, 5, Integer.MIN_VALUE, Integer.MAX_VALUE}) {
            bounds("P39 layer " + layer, o -> o.jam(layer, true));
        }
        check.thrown("P39 the reserve is no layer", IndexOutOfBoundsException.class, ActsTest::landed,
                o -> o.jam(2, false));
    }

    private void refusalsChangeNothing() {
        LayeredChute object = landed();
        LayeredChute twin = landed();
        object.open(0);
        object.cut(0);
        object.steer(1);
        object.tick(1);
        object.openReserve();
        object.jam(0, true);
        check.equal("the accounts of refusals", "2 5 0 1 0 0 0 0 0 0", Check.accounts(object));
        twin.fallTo(0);
        twin.fallTo(0);
        twin.fallTo(0);
        twin.fallTo(0);
        twin.fallTo(0);
        twin.jam(0, false);
        check.equal("only the accounts differ", Check.everything(twin), Check.everything(object));
    }
}
