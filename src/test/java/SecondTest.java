import java.util.ArrayList;
import java.util.List;

/** Sections 1 to 3: what a second does, and the events that it makes. AIR is 100 below 400 metres. */
public class SecondTest {
    private final Check check = new Check("SecondTest");

    public static void main(String[] arguments) {
        SecondTest test = new SecondTest();
        test.nothingOpen();
        test.brakes();
        test.heats();
        test.layersOpenWhenAsked();
        test.jammedLayers();
        test.reserveOpens();
        test.linesHoldOrTear();
        test.slipWeighs();
        test.heatWeakens();
        test.tornChutesDoNotBrake();
        test.drifts();
        test.lands();
        test.eventsInTheirOrder();
        test.eventsAreKept();
        test.check.end();
    }

    private static LayeredChute opened(String setup) {
        LayeredChute object = Check.made(setup);
        for (int layer = 0; layer < object.size(0); layer++) {
            object.open(layer);
        }
        return object;
    }

    private void fallsTo(String what, String due, LayeredChute object) {
        object.tick(1);
        check.equal(what, due, Check.fall(object));
    }

    private void nothingOpen() {
        fallsTo("the capsule brakes, a little", "2908 92 0 0 1", new LayeredChute());
        fallsTo("from rest", "389 10 0 0 1", Check.made("capsule 399 0 1;"));
        fallsTo("the quotient by MASS is cut", "369 30 0 0 1", Check.made("capsule 399 20 10;"));
        fallsTo("the quotient by MASS counts", "370 29 0 0 1", Check.made("capsule 399 20 8;"));
        LayeredChute object = Check.made("capsule 12000 400 99;");
        fallsTo("AIR is that ahead of the second", "11612 388 0 85 1", object);
        check.equal("GAIN takes the new SPEED and the old AIR", 105, object.size(15));
        object = Check.made("capsule 399 95 36;");
        fallsTo("BRAKE / MASS is just 5", "299 100 0 0 1", object);
        check.equal("GAIN is just 10", 10, object.size(15));
    }

    private void brakes() {
        fallsTo("a chute brakes by its PULL", "373 26 0 0 1", opened("capsule 399 20 10;"
                + "layer 10 4 9999 below 399 under 20;"));
        fallsTo("SPEED is at least its half", "389 10 0 0 1", opened("capsule 399 20 1;"
                + "layer 99 4 9999 below 399 under 20;"));
        fallsTo("the half is cut", "389 10 0 0 1", opened("capsule 399 21 1;layer 99 4 9999 below 399 under 21;"));
        String two = "layer 1 1 99 below 399 under 15;layer 1 1 99 below 399 under 15;";
        fallsTo("each quotient is cut by itself", "374 25 0 0 1", opened("capsule 399 15 9;" + two));
        fallsTo("they are added up", "375 24 0 0 1", opened("capsule 399 15 8;" + two));
        fallsTo("thin air brakes less", "29974 26 0 0 1", opened("capsule 30000 20 3;"
                + "layer 10 4 9999 below 30000 under 20;"));
        fallsTo("the reserve brakes as well", "373 26 0 0 1", reserveOpened());
    }

    private static LayeredChute reserveOpened() {
        LayeredChute object = Check.made("capsule 399 20 10;layer 9 9 9 below 399 under 400 jammed;"
                + "reserve 10 4 9999 below 399 after 1;");
        object.open(0);
        object.openReserve();
        return object;
    }

    private void heats() {
        LayeredChute object = Check.made("capsule 30000 400 99;cool 0;");
        object.tick(1);
        check.equal("HEAT without COOL", "40 40", object.capsule(4) + " " + object.size(15));
        object.tick(1);
        check.equal("HEAT grows", object.size(15), object.capsule(4));
        object.tick(25);
        check.equal("HEAT is at most 999", 999, object.capsule(4));
        check.equal("GAINs are added up ahead of the bound", true, object.size(15) > 999);
        LayeredChute cold = Check.made("capsule 12000 400 99;cool 99;");
        cold.tick(1);
        check.equal("COOL is taken off", "6 105", cold.capsule(4) + " " + cold.size(15));
        cold.tick(1);
        check.equal("GAIN of the second second", 105 + cold.capsule(1) * cold.capsule(1) * 71 / 100000, cold.size(15));
        cold.tick(20);
        check.equal("HEAT is at least 0", 0, cold.capsule(4));
    }

    private void layersOpenWhenAsked() {
        String layers = "layer 10 4 9999 below 399 under 20;layer 5 2 9999 below 399 under 20;";
        LayeredChute object = Check.made("capsule 399 20 10;" + layers + "target 399 19;");
        fallsTo("the first layer opens and brakes at once", "373 26 0 0 1", object);
        check.equal("only one of them", "10", Check.states(object));
        check.equal("its event", "0 0 0 20", Check.events(object));
        object = Check.made("capsule 399 20 10;" + layers + "target 399 20;");
        object.tick(1);
        check.equal("SPEED must be greater than the target", "00", Check.states(object));
        object = Check.made("capsule 399 20 10;" + layers + "target 398 1;");
        object.tick(1);
        check.equal("there must be a target at HEIGHT", "00", Check.states(object));
        object.tick(1);
        check.equal("SPEED is above MOST by then", "00", Check.states(object));
        object = Check.made("capsule 399 20 10;" + layers + "target 400 19;target 500 1;");
        object.tick(1);
        check.equal("the target above counts", "10", Check.states(object));
        object = Check.made("capsule 399 20 10;layer 1 1 9 below 398 under 20;layer 1 1 9 below 399 under 19;"
                + "layer 1 1 99 below 399 under 400;layer 1 1 99 below 399 under 400;target 399 1;");
        object.tick(1);
        check.equal("a layer is left out above its CEILING or MOST", "0010", Check.states(object));
        object.tick(1);
        check.equal("the next one in the next second", "0011", Check.states(object));
        check.equal("each with its SPEED", "0 0 2 20, 1 0 3 29", Check.events(object));
    }

    private void jammedLayers() {
        LayeredChute object = Check.made("capsule 399 20 10;layer 10 4 9999 below 399 under 400 jammed;"
                + "layer 10 4 9999 below 399 under 400;reserve 9 9 9 below 399 after 1;target 399 19;");
        fallsTo("a jammed layer does not brake", "369 30 0 0 1", object);
        check.equal("it fails, and is all that opens", "300", Check.states(object));
        check.equal("its event", "0 3 0 20", Check.events(object));
        object.tick(1);
        check.equal("then the next one opens", "310", Check.states(object));
    }

    private void reserveOpens() {
        String setup = "capsule 399 20 10;layer 1 1 9 below 399 under 400 jammed;layer 1 1 9 below 399 under 400 jammed;"
                + "reserve 10 4 9999 below 399 after 2;target 399 19;";
        LayeredChute object = Check.made(setup);
        object.tick(2);
        check.equal("both layers have failed", "330", Check.states(object));
        object.tick(1);
        check.equal("the reserve opens", "331", Check.states(object));
        check.equal("its event tells the failed layers", "2 4 2 2", Check.event(object, 2));
        object = Check.made(setup.replace("below 399 after", "below 330 after"));
        object.tick(2);
        check.equal("HEIGHT ahead of the third second", 330, object.capsule(0));
        object.tick(1);
        check.equal("HEIGHT at its CEILING", "331", Check.states(object));
        object = Check.made(setup.replace("below 399 after", "below 329 after"));
        object.tick(3);
        check.equal("HEIGHT above its CEILING", "330", Check.states(object));
        object.tick(1);
        check.equal("HEIGHT below its CEILING", "331", Check.states(object));
        object = Check.made(setup.replace("after 2", "after 3"));
        object.tick(4);
        check.equal("too few have failed", "330", Check.states(object));
        object = Check.made(setup.replace("under 400 jammed;reserve", "under 39;reserve").replace("after 2", "after 1"));
        object.tick(2);
        check.equal("a layer that may open comes first", "310", Check.states(object));
        object = Check.made(setup.replace("under 400 jammed;reserve", "under 29;reserve").replace("after 2", "after 1"));
        object.tick(2);
        check.equal("a layer that may not open does not matter", "301", Check.states(object));
        object = Check.made(setup.replace("target 399 19;", ""));
        object.open(0);
        object.open(1);
        object.tick(1);
        check.equal("not asked for", "330", Check.states(object));
        object.setTarget(399, 20);
        object.tick(1);
        check.equal("asked for", "331", Check.states(object));
        object = Check.made(setup.replace("10 4 9999", "10 4 1"));
        object.tick(3);
        check.equal("the reserve can tear", "332", Check.states(object));
        check.equal("in the second in which it opens", "2 4 2 2, 2 1 2 4, 2 2 2 10",
                Check.events(object).substring(Check.events(object).indexOf("2 4 2 2")));
        object.tick(1);
        check.equal("it opens but once", 5, object.size(8));
    }

    private void linesHoldOrTear() {
        tears("all hold", 0, "10 4 10", 20);
        tears("all in two rounds", 4, "10 4 8", 20);
        tears("all at once", 4, "10 4 5", 20);
        tears("the load is rounded up, and reckoned anew", 3, "18 12 1", 20);
        tears("one round", 2, "15 12 1", 20);
        tears("one line holds", 0, "10 1 40", 20);
        tears("one line tears", 1, "10 1 39", 20);
        tears("PULL is cut", 0, "1 1 2", 15);
        tears("no PULL, no load", 0, "99 1 1", 0);
        LayeredChute object = opened("capsule 399 20 10;layer 18 12 1 below 399 under 400;");
        fallsTo("a chute brakes by its whole PULL still", "377 22 0 0 1", object);
        check.equal("its lines that tore", "0 1 0 3", Check.event(object, 1));
        check.equal("it stays open", 1, object.chute(0, 5));
        check.equal("lines that tore stay so", 9, object.chute(0, 6));
        check.equal("the weakest ones tore", "-1 10", object.line(0, 2) + " " + object.line(0, 3));
        object.tick(1);
        check.equal("PULL 87 on 9 lines", 9, object.chute(0, 6));
        object.tick(1);
        check.equal("PULL 95 on 9, then on 8 lines", "2 1 0 1", Check.event(object, 2));
        check.equal("8 lines are left", 8, object.chute(0, 6));
    }

    private void tears(String what, int due, String chute, int speed) {
        LayeredChute object = opened("capsule 399 " + speed + " 10;layer " + chute + " below 399 under 400;");
        object.tick(1);
        check.equal("tearing: " + what, due, object.size(12));
        check.equal("tearing: " + what + ", events", due > 0, object.size(8) > 1);
        int lines = object.chute(0, 1);
        check.equal("tearing: " + what + ", state", due == lines ? 2 : 1, object.chute(0, 5));
    }

    private void slipWeighs() {
        int[] slips = {0, 9, -9, 1, -1};
        int[] due = {3, 4, 4, 3, 3};
        for (int i = 0; i < slips.length; i++) {
            LayeredChute object = opened("capsule 399 20 10;layer 18 12 1 below 399 under 400;");
            object.steer(slips[i]);
            object.tick(1);
            check.equal("lines that tear with SLIP " + slips[i], due[i], object.size(12));
            check.equal("SLIP does not brake", 22, object.capsule(1));
        }
        LayeredChute object = opened("capsule 399 64 10;layer 1 1 42 below 399 under 400;");
        object.steer(-1);
        object.tick(1);
        check.equal("PULL 40, LOAD 42 holds", 1, object.chute(0, 5));
        object = opened("capsule 399 65 10;layer 1 1 44 below 399 under 400;");
        object.steer(1);
        check.equal("PULL 42 with SLIP 1: the quotient is cut", 44, object.loadOn(0));
        object.tick(1);
        check.equal("PULL 42, LOAD 44 holds", 1, object.chute(0, 5));
    }

    private void heatWeakens() {
        LayeredChute object = hot("1637");
        check.equal("SPEED and HEAT", "820 379 0 140 1", Check.fall(object));
        object.open(0);
        check.equal("the load", 1407, object.loadOn(0));
        object.tick(1);
        check.equal("a line that just holds", 1, object.chute(0, 5));
        object = hot("1636");
        object.open(0);
        object.tick(1);
        check.equal("a line that just tears", 2, object.chute(0, 5));
    }

    private static LayeredChute hot(String strength) {
        LayeredChute object = Check.made("capsule 1199 400 99;cool 0;layer 1 1 " + strength
                + " below 1199 under 400;");
        object.tick(1);
        return object;
    }

    private void tornChutesDoNotBrake() {
        LayeredChute object = opened("capsule 399 20 10;layer 99 4 1 below 399 under 400;"
                + "layer 10 4 9999 below 399 under 400;");
        fallsTo("only the other one brakes", "373 26 0 0 1", object);
        check.equal("it has failed", "21", Check.states(object));
        check.equal("tearing comes ahead of failing", "0 1 0 4, 0 2 0 99",
                Check.event(object, 2) + ", " + Check.event(object, 3));
        check.equal("lines that tore are told once", 4, object.size(8));
    }

    private void drifts() {
        String winds = "wind 0 5;wind 300 -7;wind 399 11;";
        String layer = "layer 10 4 9999 below 399 under 20;";
        LayeredChute object = opened("capsule 399 20 10;" + winds + layer);
        fallsTo("the wind at HEIGHT ahead of falling", "373 26 11 0 1", object);
        object.steer(-4);
        fallsTo("the wind and SLIP", "345 28 0 0 2", object);
        object.fallTo(299);
        int x = object.capsule(2);
        object.tick(1);
        check.equal("the next wind below", x + 5 - 4, object.capsule(2));
        object.cut(0);
        x = object.capsule(2);
        object.tick(1);
        check.equal("no chute is open", x, object.capsule(2));
        check.equal("SLIP stays", -4, object.capsule(5));
        fallsTo("a packed chute does not drift", "369 30 0 0 1", Check.made("capsule 399 20 10;" + winds + layer));
        fallsTo("a chute that tears in this second neither", "369 30 0 0 1",
                opened("capsule 399 20 10;" + winds + layer.replace("9999", "1")));
        object = Check.made("capsule 399 20 10;" + winds + layer + "target 399 1;");
        fallsTo("a chute that opens in this second does", "373 26 11 0 1", object);
        fallsTo("no wind so low", "373 26 0 0 1", opened("capsule 399 20 10;wind 400 9;" + layer));
        fallsTo("two chutes drift once", "377 22 11 0 1", opened("capsule 399 20 10;" + winds + layer + layer));
    }

    private void lands() {
        LayeredChute object = Check.made("capsule 30 20 10;");
        fallsTo("just so", "0 30 0 0 1", object);
        check.equal("the event and the result", "0 6 -1 3 3", Check.events(object) + " " + object.capsule(8));
        object = Check.made("capsule 29 20 10;");
        fallsTo("HEIGHT is not less than 0", "0 30 0 0 1", object);
        check.equal("the metres fallen", 29, object.size(14));
        object = Check.made("capsule 31 20 10;");
        fallsTo("not yet", "1 30 0 0 1", object);
        check.equal("no result yet", "0 0", object.capsule(8) + " " + object.size(8));
        lands(1, "spot 0 0 30;");
        lands(2, "spot 0 0 29;");
        lands(2, "spot -5 5 29;spot 0 0 99;");
        lands(1, "spot 1 5 29;spot -9 0 30;spot 0 0 1;");
        lands(1, "spot 0 9 30;");
        lands(3, "spot 1 9 99;");
        lands(3, "spot -9 -1 99;");
        lands(3, "");
        object = opened("capsule 26 20 10;layer 10 4 9999 below 399 under 20;wind 0 -6;spot -6 -6 26;");
        object.tick(1);
        check.equal("X and SPEED are those of the end", 1, object.capsule(8));
        object = opened("capsule 20 20 10;layer 10 1 1 below 399 under 20;");
        object.tick(1);
        check.equal("the landing is the last event of its second", "0 0 0 20, 0 1 0 1, 0 2 0 10, 0 6 -1 3",
                Check.events(object));
    }

    private void lands(int due, String spots) {
        LayeredChute object = Check.made("capsule 30 20 10;" + spots);
        object.tick(1);
        check.equal("result with " + spots, due, object.capsule(8));
        check.equal("event with " + spots, "0 6 -1 " + due, Check.event(object, 0));
    }

    private void eventsInTheirOrder() {
        LayeredChute object = opened("capsule 399 20 10;layer 10 4 5 below 399 under 20;"
                + "layer 10 3 9999 below 399 under 20 jammed;layer 18 12 1 below 399 under 400;"
                + "reserve 8 2 1 below 399 after 1;");
        object.openReserve();
        object.tick(1);
        check.equal("by ascending chutes", "0 0 0 20, 0 3 1 20, 0 0 2 20, 0 4 3 1, 0 1 0 4, 0 2 0 10, 0 1 2 3,"
                + " 0 1 3 2, 0 2 3 8", Check.events(object));
        object.cut(2);
        check.equal("an act by hand tells TIME as it is", "1 5 2 9", Check.event(object, 9));
    }

    private void eventsAreKept() {
        List<String> all = new ArrayList<>();
        for (int time = 0; time <= 40; time++) {
            LayeredChute object = slowlyTorn(time);
            addLatestEvents(time - 1, object, all);
            List<String> kept = all.subList(Math.max(0, all.size() - 30), all.size());
            check.equal("the latest 30 events at " + time, String.join(", ", kept), Check.events(object));
            check.equal("how many are kept at " + time, kept.size(), object.size(8));
            check.equal("no 31st event at " + time, "NoSuchElementException",
                    Check.outcome(o -> o.event(30, 0), object));
        }
        check.equal("there were more than 50 events", true, all.size() > 50);
    }

    /** Eight layers of which lines tear now and then, behind so many seconds. */
    private static LayeredChute slowlyTorn(int seconds) {
        StringBuilder setup = new StringBuilder("capsule 30000 40 99;");
        for (int layer = 0; layer < 8; layer++) {
            setup.append("layer 1 12 ").append(1 + layer).append(" below 30000 under 400;");
        }
        LayeredChute object = opened(setup.toString());
        for (int time = 0; time < seconds; time++) {
            object.steer(Math.max(0, time - 30));
            object.tick(1);
        }
        return object;
    }

    /** Adds the events of the latest second, or those of the start; in a second there are at most 30. */
    private static void addLatestEvents(int time, LayeredChute object, List<String> all) {
        for (int i = 0; i < object.size(8); i++) {
            boolean isOpening = object.event(i, 1) == 0;
            if (isOpening ? time < 0 : object.event(i, 0) == time) {
                all.add(Check.event(object, i));
            }
        }
    }
}
