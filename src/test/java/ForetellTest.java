import java.util.function.Predicate;

/** Promises 23 to 31: foretelling. AIR is 100 below 400 metres. */
public class ForetellTest {
    private static final String LAYER = "layer 10 1 9999 below 30000 under 400;";
    private static final String SPOTS = "spot 5 7 9;spot 9 20 9;spot -20 -9 9;spot 28 30 9;spot 4 5 9;spot -1 1 9;"
            + "spot -9999 -500 9;spot 3 3 9;";

    private final Check check = new Check("ForetellTest");

    public static void main(String[] arguments) {
        ForetellTest test = new ForetellTest();
        test.lands();
        test.eachByItself();
        test.hasLanded();
        test.takesLongerThan3000();
        test.failsOrOpensBehind3000();
        test.failsIn();
        test.reserveIn();
        test.hottest();
        test.bestSlip();
        test.bestSlipOfTwo();
        test.reachable();
        test.foretoldIsDone();
        test.changesNothing();
        test.check.end();
    }

    /** SPEED becomes 26, 28 and 29: it lands behind 3 seconds. */
    static LayeredChute low() {
        LayeredChute object = Check.made("capsule 60 20 10;" + LAYER + SPOTS);
        object.open(0);
        return object;
    }

    /** Eight huge layers at a mass of 1, all open: it takes some 6000 seconds. */
    static LayeredChute feather(int height, String lines) {
        LayeredChute object = Check.made("capsule " + height + " 5 1;"
                + ("layer 99 " + lines + " below 30000 under 400;").repeat(8) + "spot 0 9 9;spot -999 999 99;spot -9999 -10 9;spot 10 9999 9;");
        for (int layer = 0; layer < 8; layer++) {
            object.open(layer);
        }
        return object;
    }

    /** landIn, landAt, landSpeed and landResult. */
    static String landing(LayeredChute object) {
        return object.landIn() + " " + Check.outcome(o -> o.landAt(), object) + " " + object.landSpeed() + " "
                + object.landResult();
    }

    private void lands() {
        LayeredChute object = low();
        check.equal("P23 to P26 straight down, in no safe spot", "3 0 29 2", landing(object));
        object.steer(2);
        check.equal("P23 to P26 into the first spot, too fast", "3 6 29 2", landing(object));
        object.steer(8);
        check.equal("P23 to P26 into no spot", "3 24 29 3", landing(object));
        check.equal("P26 slow enough", "1 0 30 1", landing(Check.made("capsule 30 20 10;spot 0 0 30;")));
        check.equal("P23 one metre more", "2 0 39 3", landing(Check.made("capsule 31 20 10;")));
        LayeredChute asking = Check.made("capsule 390 20 10;layer 10 1 9999 below 300 under 400;target 310 1;wind 0 2;");
        String due = landing(asking);
        int seconds = asking.fallTo(0);
        check.equal("P23 to P26 with a layer that opens", due, seconds + " " + asking.capsule(2) + " "
                + asking.capsule(1) + " " + asking.capsule(8));
        check.equal("P24 it drifts from then on", true, asking.capsule(2) > 0);
    }

    /** An answer must not rest on what an earlier call foretold. */
    private void eachByItself() {
        LayeredChute object = Check.made("capsule 31 20 10;spot 0 0 39;");
        check.equal("P25 by itself", 39, object.landSpeed());
        object = Check.made("capsule 31 20 10;spot 0 0 39;");
        check.equal("P26 by itself", 1, object.landResult());
        object = Check.made("capsule 31 20 10;spot 0 0 39;");
        check.equal("P24 by itself", 0, object.landAt());
        object = Check.made("capsule 31 20 10;spot 0 0 39;");
        check.equal("P31 by itself", 1, object.reachable());
        object = Check.made("capsule 31 20 10;spot 0 0 39;");
        check.equal("P30 by itself", 9, object.bestSlip(0));
        LayeredChute moving = low();
        check.equal("P25 ahead of a second", 29, moving.landSpeed());
        moving.steer(1);
        check.equal("P31 not with SLIP as it is", true, moving.reachable() > 0);
        check.equal("P25 behind foretelling with other SLIPs", 29, moving.landSpeed());
        moving.reachable();
        check.equal("P24 behind foretelling with other SLIPs", 3, moving.landAt());
        moving.reachable();
        check.equal("P26 behind foretelling with other SLIPs", 2, moving.landResult());
    }

    private void hasLanded() {
        LayeredChute object = low();
        object.steer(2);
        object.fallTo(0);
        check.equal("P23 to P26 it has landed", "0 6 29 2", landing(object));
        check.equal("P27 it does not fail any more", -1, object.failsIn(0));
        check.equal("P28 there is none", -1, object.reserveIn());
        check.equal("P29 HEAT as it is", object.capsule(4), object.hottest());
        check.equal("P30 every SLIP is as good", "9 9", object.bestSlip(0) + " " + object.bestSlip(6));
        check.equal("P31 it is in spot 0", 1, object.reachable());
    }

    private void takesLongerThan3000() {
        int all = 0;
        LayeredChute counted = feather(30000, "12 9999");
        int passed = counted.tick(200);
        for (int i = 0; i < 60 && passed > 0; i++) {
            all += passed;
            passed = counted.tick(200);
        }
        check.equal("a feather takes long", true, all > 3200 && counted.capsule(0) == 0);
        LayeredChute object = feather(30000, "12 9999");
        check.equal("P23 to P26 more than 3000", "-1 NoSuchElementException -1 -1", landing(object));
        check.equal("P30 with no SLIP", "-1 -1", object.bestSlip(0) + " " + object.bestSlip(1));
        check.equal("P31 with no SLIP", 0, object.reachable());
        pass(object, all - 3001);
        check.equal("P23 to P26 3001", "-1 NoSuchElementException -1 -1", landing(object));
        check.equal("P30 3001", -1, object.bestSlip(0));
        check.equal("P31 3001", 0, object.reachable());
        object.tick(1);
        check.equal("P23 to P26 3000", "3000 0 " + counted.capsule(1) + " 2", landing(object));
        check.equal("P30 3000", 9, object.bestSlip(0));
        check.equal("P31 3000", 15, object.reachable());
        check.thrown("P24 changes nothing", java.util.NoSuchElementException.class, () -> feather(30000, "12 9999"),
                o -> o.landAt());
    }

    private void failsOrOpensBehind3000() {
        LayeredChute counted = coolFeather();
        int torn = untilTorn(counted);
        int all = torn;
        while (counted.capsule(4) == 0 && all < torn + 20) {
            all += counted.tick(1);
        }
        check.equal("a feather that tears late", true, torn > 3001 && counted.capsule(4) > 0);
        LayeredChute object = coolFeather();
        pass(object, torn - 3001);
        check.equal("P27 3001", "-1 1", object.failsIn(0) + " " + object.chute(0, 5));
        object.tick(1);
        check.equal("P27 3000", 3000, object.failsIn(0));
        object.tick(1);
        check.equal("P27 2999", 2999, object.failsIn(0));
        object = coolFeather();
        pass(object, all - 3001);
        check.equal("P29 3001", 0, object.hottest());
        object.tick(1);
        check.equal("P29 3000", counted.capsule(4), object.hottest());

        LayeredChute reserved = reservedFeather();
        int opened = 0;
        while (reserved.chute(8, 5) == 0 && opened < 6000) {
            opened += reserved.capsule(0) > 13000 ? reserved.tick(200) : reserved.tick(5);
        }
        while (reserved.chute(8, 5) == 1 && reserved.size(9) > 0) {
            reserved.undo();
            opened -= 5;
        }
        while (reserved.chute(8, 5) == 0 && opened < 6000) {
            opened += reserved.tick(1);
        }
        check.equal("a reserve that opens late", true, opened > 3001 && reserved.chute(8, 5) == 1);
        object = reservedFeather();
        pass(object, opened - 3001);
        check.equal("P28 3001", -1, object.reserveIn());
        object.tick(1);
        check.equal("P28 3000", 3000, object.reserveIn());
        object.tick(1);
        check.equal("P28 2999", 2999, object.reserveIn());
    }

    /** All its chutes tear at once in thick air; then it falls fast, and HEAT rises. */
    static LayeredChute coolFeather() {
        LayeredChute object = Check.made("capsule 30000 5 4;"
                + "layer 99 1 97 below 30000 under 400;".repeat(8) + "cool 0;");
        for (int layer = 0; layer < 8; layer++) {
            object.open(layer);
        }
        return object;
    }

    static int untilTorn(LayeredChute object) {
        int seconds = 0;
        while (object.chute(0, 5) == 1 && seconds < 6000) {
            seconds += object.tick(100);
        }
        object.undo();
        seconds -= 100;
        while (object.chute(0, 5) == 1 && seconds < 6000) {
            seconds += object.tick(1);
        }
        return seconds;
    }

    /** A layer has failed; the reserve opens when the seven others have brought it down to its CEILING. */
    static LayeredChute reservedFeather() {
        LayeredChute object = Check.made("capsule 30000 5 1;" + "layer 99 12 9999 below 30000 under 400;".repeat(7)
                + "layer 1 1 1 below 30000 under 400 jammed;reserve 9 9 999 below 12000 after 1;target 30000 1;");
        for (int layer = 0; layer < 8; layer++) {
            object.open(layer);
        }
        return object;
    }

    static void pass(LayeredChute object, int seconds) {
        for (int left = seconds; left > 0; left -= 200) {
            object.tick(Math.min(200, left));
        }
    }

    private void failsIn() {
        LayeredChute object = Check.made("capsule 3000 20 99;layer 1 1 40 below 30000 under 400;"
                + "layer 9 9 9 below 30000 under 400 jammed;layer 1 1 1 below 30000 under 400 jammed;"
                + "layer 1 1 9999 below 30000 under 400;reserve 1 1 1 below 30000 after 1;");
        check.equal("P27 nothing opens", "-1 -1 -1 -1 -1", fails(object));
        object.open(0);
        object.open(1);
        object.open(3);
        int seconds = object.failsIn(0);
        check.equal("P27 it fails some time", true, seconds > 1);
        check.equal("P27 jammed now", 0, object.failsIn(1));
        check.equal("P27 jammed, but packed", -1, object.failsIn(2));
        check.equal("P27 it does not tear", -1, object.failsIn(3));
        object.tick(seconds - 1);
        check.equal("P27 it is open still", "1 1", object.failsIn(0) + " " + object.chute(0, 5));
        object.tick(1);
        check.equal("P27 it has failed now", "0 2", object.failsIn(0) + " " + object.chute(0, 5));
        object.setTarget(30000, 1);
        check.equal("P27 the jammed one will open, then the reserve", "0 0 1 -1 2", fails(object));
        object.cut(3);
        check.equal("P27 cut away", -1, object.failsIn(3));
        int[] none = {-1, 5, 6, Integer.MIN_VALUE, Integer.MAX_VALUE};
        for (int number : none) {
            check.equal("P27 chute " + number, "IndexOutOfBoundsException",
                    Check.outcome(o -> o.failsIn(number), object));
        }
        check.thrown("P27 changes nothing", IndexOutOfBoundsException.class, ForetellTest::low, o -> o.failsIn(1));
        LayeredChute last = Check.made("capsule 30 20 10;layer 9 1 9 below 30 under 20;");
        last.open(0);
        check.equal("P27 in the second of the landing", 1, last.failsIn(0));
        LayeredChute early = Check.made("capsule 30 20 10;layer 9 1 9 below 29 under 400;target 29 1;");
        check.equal("P27 the landing comes first", -1, early.failsIn(0));
    }

    private static String fails(LayeredChute object) {
        StringBuilder text = new StringBuilder();
        int chutes = object.size(0) + object.size(1);
        for (int chute = 0; chute < chutes; chute++) {
            text.append(chute > 0 ? " " : "").append(object.failsIn(chute));
        }
        return text.toString();
    }

    private void reserveIn() {
        String setup = "capsule 390 20 10;layer 1 1 1 below 390 under 400 jammed;"
                + "layer 1 1 1 below 390 under 400 jammed;target 390 1;reserve 9 9 99 below 390 after 2;";
        LayeredChute object = Check.made(setup);
        check.equal("P28 there is none", -1, new LayeredChute().reserveIn());
        check.equal("P28 behind two jammed layers", 3, object.reserveIn());
        object.tick(2);
        check.equal("P28 in the next second", "1 0", object.reserveIn() + " " + object.chute(2, 5));
        object.tick(1);
        check.equal("P28 open now", "0 1", object.reserveIn() + " " + object.chute(2, 5));
        object.cut(2);
        check.equal("P28 cut away", -1, object.reserveIn());
        check.equal("P28 it does not come", -1, Check.made(setup.replace("after 2", "after 3")).reserveIn());
        check.equal("P28 it lands first", -1, Check.made(setup.replace("390", "60")).reserveIn());
        LayeredChute weak = Check.made(setup.replace("9 9 99", "99 9 1"));
        check.equal("P28 it opens and fails in the same second", "-1 3", weak.reserveIn() + " " + weak.failsIn(2));
        weak.tick(3);
        check.equal("P28 it has failed", "-1 2", weak.reserveIn() + " " + weak.chute(2, 5));
        LayeredChute later = Check.made(setup.replace("9 9 99", "1 1 25").replace("capsule 390 20", "capsule 2000 20")
                .replace("390", "2000"));
        check.equal("P28 the first time counts, if it fails later, too", "3", "" + later.reserveIn());
        check.equal("P27 it fails later", true, later.failsIn(2) > 3);
        LayeredChute landed = Check.made(setup.replace("390", "100"));
        check.equal("P28 it opens in the second of the landing", "3 3", landed.reserveIn() + " " + landed.landIn());
        landed.fallTo(0);
        check.equal("P28 it has landed with it open", 0, landed.reserveIn());
    }

    private void hottest() {
        LayeredChute object = Check.made("capsule 12000 400 10;");
        int due = 0;
        LayeredChute falling = Check.made("capsule 12000 400 10;");
        for (int seconds = 0; seconds < 300 && falling.capsule(0) > 0; seconds++) {
            falling.tick(1);
            due = Math.max(due, falling.capsule(4));
        }
        check.equal("P29 the greatest one to come", due, object.hottest());
        check.equal("P29 that is not the last one", true, due > falling.capsule(4));
        int seconds = 0;
        while (object.capsule(4) < due && seconds < 300) {
            object.tick(1);
            seconds++;
        }
        check.equal("P29 now", due, object.hottest());
        object.tick(1);
        check.equal("P29 what was does not count", true, object.hottest() <= due);
        object.fallTo(0);
        check.equal("P29 landed", object.capsule(4), object.hottest());
        LayeredChute cooling = Check.made("capsule 12000 400 99;cool 99;layer 99 12 9999 below 30000 under 400;");
        cooling.tick(1);
        cooling.open(0);
        check.equal("P29 HEAT as it is now", "6 6", cooling.capsule(4) + " " + cooling.hottest());
        check.equal("P29 behind the last second", 1, hotAtLast());
    }

    /** SPEED 400 becomes 378, and GAIN 142: it lands then. */
    private static int hotAtLast() {
        LayeredChute object = Check.made("capsule 378 400 99;cool 0;");
        int due = object.hottest();
        object.tick(1);
        return object.capsule(0) == 0 && due == object.capsule(4) && due > 100 ? 1 : 0;
    }

    private void bestSlip() {
        LayeredChute object = low();
        int[] due = {2, 3, -3, 9, 1, 0, -9, 1};
        for (int spot = 0; spot < due.length; spot++) {
            check.equal("P30 into spot " + spot, due[spot] + 9, object.bestSlip(spot));
        }
        object.steer(5);
        check.equal("P30 SLIP as it is does not matter", "11 9", object.bestSlip(0) + " " + object.bestSlip(5));
        LayeredChute packed = Check.made("capsule 60 20 10;" + LAYER + "spot 3 9 9;");
        check.equal("P30 without an open chute", 9, packed.bestSlip(0));
        packed.setTarget(60, 1);
        check.equal("P30 a chute that will open", 10, packed.bestSlip(0));
        LayeredChute windy = Check.made("capsule 60 20 10;" + LAYER + "wind 0 -4;spot 0 0 9;spot -30 -21 9;");
        windy.open(0);
        check.equal("P30 against the wind, and with it", "13 6", windy.bestSlip(0) + " " + windy.bestSlip(1));
        int[] none = {-1, 8, Integer.MIN_VALUE, Integer.MAX_VALUE};
        for (int number : none) {
            check.thrown("P30 spot " + number, IndexOutOfBoundsException.class, ForetellTest::low,
                    o -> o.bestSlip(number));
        }
        check.equal("P30 without spots", "IndexOutOfBoundsException",
                Check.outcome(o -> o.bestSlip(0), new LayeredChute()));
    }

    /** With a SLIP of 4 or more, to either side, the only line tears: the wind does not take the capsule along. */
    private void bestSlipOfTwo() {
        LayeredChute object = Check.made("capsule 60 20 10;layer 10 1 47 below 60 under 20;wind 0 30;spot 0 0 9;"
                + "spot 20 40 9;");
        object.open(0);
        check.equal("P30 of two the negative one", 5, object.bestSlip(0));
        check.equal("P30 the least absolute value", 9, object.bestSlip(1));
        check.equal("P31 both can be reached", 3, object.reachable());
        LayeredChute feather = feather(22000, "1 97");
        check.equal("it does not land in time", -1, feather.landIn());
        int best = feather.bestSlip(1) - 9;
        check.equal("P30 those with which it would not land are left out", true, best >= -9 && best < 0);
        check.equal("P31 nor do they reach a spot; with others it gets far", 4 + 8, feather.reachable());
        feather.steer(best);
        check.equal("P30 it lands with it", true, feather.landIn() > 0);
        feather.steer(-best);
        check.equal("P30 it does to the other side", true, feather.landIn() > 0);
        feather.steer(best + 1);
        check.equal("P30 it does not with the next lesser one", -1, feather.landIn());
    }

    private void reachable() {
        check.equal("P31 X is a multiple of 3 from -27 to 27", 1 + 2 + 4 + 32 + 128, low().reachable());
        LayeredChute object = Check.made("capsule 60 20 10;" + LAYER + "spot 1 2 9;spot -27 -27 9;spot 27 99 1;"
                + "spot -28 -28 9;spot 28 99 9;");
        check.equal("P31 without an open chute", 0, object.reachable());
        object.open(0);
        check.equal("P31 the farthest ones", 2 + 4, object.reachable());
        object.steer(1);
        check.equal("P31 SLIP as it is does not matter", 2 + 4, object.reachable());
        check.equal("P31 without spots", 0, new LayeredChute().reachable());
        check.equal("P31 the last of eight", 128, Check.made("capsule 60 20 10;" + "spot 1 1 1;".repeat(7)
                + "spot 0 0 1;").reachable());
    }

    private void foretoldIsDone() {
        String[] setups = {"capsule 9000 100 10;layer 20 6 90 below 5000 under 400;layer 5 5 5 below 3000 under 300;"
                + "reserve 40 9 30 below 2000 after 1;target 4000 50;target 1000 10;wind 0 2;wind 1500 -3;spot -90 90 20;",
            "capsule 30000 0 99;layer 99 12 300 below 9000 under 400 jammed;layer 70 12 200 below 9000 under 400;"
                + "reserve 50 12 150 below 9000 after 2;target 9000 100;wind 0 -1;spot 0 5 99;spot -999 0 25;cool 3;",
            "capsule 2500 250 40;target 2500 30;layer 4 4 40 below 2400 under 260;layer 8 4 60 below 2300 under 240;"
                + "layer 16 8 80 below 2200 under 200;reserve 30 8 99 below 2000 after 1;spot 0 0 40;"};
        for (String setup : setups) {
            int all = Check.made(setup).landIn();
            for (int ahead = 0; ahead < all; ahead += 3) {
                foretoldIsDone(setup, ahead);
            }
        }
    }

    /** What is foretold behind some seconds is what is done then. */
    private void foretoldIsDone(String setup, int ahead) {
        LayeredChute object = behind(setup, ahead);
        String due = landing(object) + " " + fails(object) + " " + object.reserveIn() + " " + object.hottest();
        int reserve = object.size(0);
        StringBuilder done = new StringBuilder();
        LayeredChute falling = behind(setup, ahead);
        int hottest = falling.capsule(4);
        int seconds = 0;
        while (falling.capsule(0) > 0 && seconds < 170) {
            seconds += falling.tick(1);
            hottest = Math.max(hottest, falling.capsule(4));
        }
        done.append(seconds).append(' ').append(falling.capsule(2)).append(' ').append(falling.capsule(1)).append(' ')
                .append(falling.capsule(8));
        for (int chute = 0; chute <= reserve; chute++) {
            int watched = chute;
            done.append(' ').append(until(behind(setup, ahead), o -> o.chute(watched, 5) / 2 == 1));
        }
        done.append(' ').append(until(behind(setup, ahead), o -> o.chute(reserve, 5) == 1)).append(' ').append(hottest);
        check.equal("foretold, " + setup.substring(0, 16) + " behind " + ahead, due, done.toString());
    }

    private static LayeredChute behind(String setup, int seconds) {
        LayeredChute object = Check.made(setup);
        pass(object, seconds);
        return object;
    }

    /** Behind how many seconds it is so; -1 if it is not so until the capsule lands. */
    private static int until(LayeredChute object, Predicate<LayeredChute> isSo) {
        int seconds = 0;
        while (!isSo.test(object)) {
            if (object.capsule(0) == 0 || seconds >= 170) {
                return -1;
            }
            seconds += object.tick(1);
        }
        return seconds;
    }

    private void changesNothing() {
        LayeredChute object = low();
        object.tick(1);
        object.steer(3);
        landing(object);
        object.failsIn(0);
        object.reserveIn();
        object.hottest();
        object.bestSlip(0);
        object.reachable();
        LayeredChute twin = low();
        twin.tick(1);
        twin.steer(3);
        check.equal("P23 to P31 change nothing", Check.everything(twin), Check.everything(object));
    }
}
