/** The example of README.md, which shows this file and what it prints; ReadmeTest holds the two together. */
public class Example {
    private static final String SETUP = """
            capsule 5000 120 10;
            layer 2 4 200 below 4000 under 200;
            layer 6 6 16 below 3000 under 150;
            layer 9 8 200 below 2000 under 90 jammed;
            reserve 20 8 400 below 2500 after 2;
            target 4000 60; target 3000 40; target 1500 20;
            wind 0 2; wind 2000 -3;
            spot -60 -20 25; spot 40 90 20;
            cool 6;
            """;

    public static void main(String[] arguments) {
        LayeredChute chute = new LayeredChute();

        append(chute, "capsule 5000 120;");
        chute.load();
        tell("a wrong setup: error " + chute.errorCode() + " at byte " + chute.errorPosition());

        append(chute, SETUP);
        tell("a setup with " + chute.load() + " chutes: " + output(chute));
        tell("lands in " + chute.landIn() + " seconds at " + chute.landAt() + " with " + chute.landSpeed());

        tell("fallTo(2600): " + chute.fallTo(2600) + " seconds, " + output(chute));
        tell("open(2): " + chute.open(2) + ", as HEIGHT is " + chute.capsule(0));
        tell("why(2): " + chute.why(2) + ", whyReserve(): " + chute.whyReserve());

        chute.save(0);
        int slip = chute.bestSlip(0) - 9;
        append(chute, "steer " + slip + "; tick 5; cut 0; steer 0; tick 200;");
        tell("a script: " + chute.play() + " of 5 commands done, " + output(chute));
        tell("undo(): " + chute.undo() + " more can be undone, " + output(chute));
        tell("restore(0): TIME " + chute.restore(0) + ", SLIP " + chute.capsule(5));

        tell("steer(" + slip + "): " + chute.steer(slip) + ", " + chute.tick(200) + " seconds to " + chute.capsule(0));
        tell("landed with result " + chute.capsule(8) + " at " + chute.capsule(2) + ": " + output(chute));
        for (int i = 0; i < chute.size(8); i++) {
            tell("TIME " + chute.event(i, 0) + ": kind " + chute.event(i, 1) + ", chute " + chute.event(i, 2)
                    + ", number " + chute.event(i, 3));
        }
    }

    /** A call of append() takes twenty bytes, four in each int, the first of them in its highest bits. */
    static void append(LayeredChute chute, String text) {
        for (int at = 0; at < text.length(); at += 20) {
            int[] packed = new int[5];
            for (int i = 0; i < 20 && at + i < text.length(); i++) {
                packed[i / 4] |= text.charAt(at + i) << 24 - i % 4 * 8;
            }
            chute.append(packed[0], packed[1], packed[2], packed[3], packed[4]);
        }
    }

    static String output(LayeredChute chute) {
        int length = chute.write();
        StringBuilder text = new StringBuilder();
        for (int i = 0; i < length; i++) {
            text.append((char) chute.output(i));
        }
        return text.toString();
    }

    private static void tell(String line) {
        System.out.println(line);
    }
}
