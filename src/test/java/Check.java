import java.util.function.Supplier;

/** What the tests share: it counts right and wrong answers and makes objects from texts. */
final class Check {
    private final String title;
    private int right;
    private int wrong;

    Check(String title) {
        this.title = title;
    }

    void equal(String what, Object due, Object answer) {
        if (due.equals(answer)) {
            right++;
        } else {
            wrong++;
            System.out.println(title + ": " + what + ": due " + due + ", answered " + answer);
        }
    }

    /** The call throws exactly this exception, and the object is afterwards like a twin without the call. */
    void thrown(String what, Class<? extends RuntimeException> due, Supplier<LayeredChute> maker,
            Call call) {
        LayeredChute object = maker.get();
        equal(what, due.getSimpleName(), outcome(call, object));
        equal(what + " changes nothing", everything(maker.get()), everything(object));
    }

    void end() {
        System.out.println(title + ": " + right + " right, " + wrong + " wrong");
        if (wrong > 0 || right == 0) {
            System.exit(1);
        }
    }

    interface Call {
        Object on(LayeredChute object);
    }

    static String outcome(Call call, LayeredChute object) {
        try {
            return String.valueOf(call.on(object));
        } catch (RuntimeException e) {
            return e.getClass().getSimpleName();
        }
    }

    static LayeredChute made(String setup) {
        LayeredChute object = new LayeredChute();
        int chutes = load(object, setup);
        if (chutes < 0) {
            throw new AssertionError("the setup has an error at " + object.errorPosition() + ": " + setup);
        }
        return object;
    }

    /** Appends a text, twenty bytes a call. */
    static int append(LayeredChute object, String text) {
        int length = object.append(0, 0, 0, 0, 0);
        for (int at = 0; at < text.length(); at += 20) {
            int[] packed = new int[5];
            for (int i = 0; i < 20; i++) {
                int next = at + i < text.length() ? text.charAt(at + i) : 0;
                packed[i / 4] |= next << 24 - i % 4 * 8;
            }
            length = object.append(packed[0], packed[1], packed[2], packed[3], packed[4]);
        }
        return length;
    }

    static int load(LayeredChute object, String setup) {
        append(object, setup);
        return object.load();
    }

    static int play(LayeredChute object, String script) {
        append(object, script);
        return object.play();
    }

    static String written(LayeredChute object) {
        return outputOf(object, object.write());
    }

    static String outputOf(LayeredChute object, int length) {
        StringBuilder text = new StringBuilder();
        for (int i = 0; i < length; i++) {
            text.append((char) object.output(i));
        }
        return text.toString();
    }

    static String event(LayeredChute object, int index) {
        return object.event(index, 0) + " " + object.event(index, 1) + " " + object.event(index, 2)
                + " " + object.event(index, 3);
    }

    /** All kept events, a comma between two. */
    static String events(LayeredChute object) {
        StringBuilder text = new StringBuilder();
        int count = object.size(8);
        for (int i = 0; i < count; i++) {
            text.append(i > 0 ? ", " : "").append(event(object, i));
        }
        return text.toString();
    }

    /** HEIGHT, SPEED, X, HEAT and TIME. */
    static String fall(LayeredChute object) {
        return object.capsule(0) + " " + object.capsule(1) + " " + object.capsule(2) + " "
                + object.capsule(4) + " " + object.capsule(6);
    }

    static String states(LayeredChute object) {
        StringBuilder text = new StringBuilder();
        int chutes = object.size(0) + object.size(1);
        for (int chute = 0; chute < chutes; chute++) {
            text.append(object.chute(chute, 5));
        }
        return text.toString();
    }

    /** All that undo() and restore() bring back, as far as it can be asked for. */
    static String world(LayeredChute object) {
        StringBuilder text = new StringBuilder();
        for (int what = 0; what <= 8; what++) {
            text.append(object.capsule(what)).append(' ');
        }
        for (int what = 0; what <= 15; what++) {
            if (what != 9) {
                text.append(object.size(what)).append(' ');
            }
        }
        int chutes = object.size(0) + object.size(1);
        for (int chute = 0; chute < chutes; chute++) {
            text.append("| ");
            for (int what = 0; what <= 7; what++) {
                text.append(object.chute(chute, what)).append(' ');
            }
        }
        int[] heights = {0, 500, 1000, 2000, 30000};
        for (int height : heights) {
            text.append(object.targetAt(height)).append('/').append(object.windAt(height)).append(' ');
        }
        for (int spot = 0; spot < object.size(4); spot++) {
            text.append(object.spot(spot, 0)).append(' ').append(object.spot(spot, 1)).append(' ')
                    .append(object.spot(spot, 2)).append(' ');
        }
        return text.append(events(object)).toString();
    }

    /** Everything that can be asked for; the acts that can be undone are undone by it. */
    static String everything(LayeredChute object) {
        StringBuilder text = new StringBuilder(world(object));
        text.append("\ntext ").append(object.append(0, 0, 0, 0, 0)).append(" error ")
                .append(object.errorCode()).append(' ').append(object.errorPosition());
        for (int what = 0; what <= 9; what++) {
            text.append(' ').append(object.account(what));
        }
        text.append("\noutput ");
        int index = 0;
        String next = outcome(o -> o.output(0), object);
        while (!next.equals("IndexOutOfBoundsException") && index < 64) {
            text.append(next).append(' ');
            index++;
            int asked = index;
            next = outcome(o -> o.output(asked), object);
        }
        text.append("\nfuture ").append(object.landIn()).append(' ').append(object.hottest());
        while (object.size(9) > 0) {
            object.undo();
            text.append("\nundo ").append(fall(object)).append(' ').append(states(object));
        }
        for (int slot = 0; slot < 2; slot++) {
            int asked = slot;
            text.append("\nsaved ").append(outcome(o -> o.restore(asked), object)).append(' ')
                    .append(fall(object)).append(' ').append(states(object));
        }
        return text.toString();
    }
}
