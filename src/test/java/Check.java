import java.util.function.IntUnaryOperator;
import java.util.function.Supplier;

/**
 * What the tests share: it counts right and wrong answers and makes objects from texts. An object is asked at most
 * 512 times, since what it answers later is free: what tells much of it (everything, world) is asked sparingly.
 */
final class Check {
    private final String title;
    private int right;
    private int wrong;

    Check(String title) {
        this.title = title;
    }

    void equal(String what, Object due, Object answer) {
        if (due.equals(answer)) {
            right++;
        } else {
            wrong++;
            System.out.println(title + ": " + what + ": due " + due + ", answered " + answer);
        }
    }

    /** The call throws exactly this exception, and the object is afterwards like a twin without the call. */
    void thrown(String what, Class<? extends RuntimeException> due, Supplier<LayeredChute> maker,
            Call call) {
        LayeredChute object = maker.get();
        equal(what, due.getSimpleName(), outcome(call, object));
        equal(what + " changes nothing", everything(maker.get()), everything(object));
    }

    /** The act is refused with this reason, which is counted; but for that the object is like a twin without the act. */
    void refused(String what, int reason, Supplier<LayeredChute> maker, Call act) {
        LayeredChute object = maker.get();
        LayeredChute twin = maker.get();
        equal(what, "-" + reason, outcome(act, object));
        for (int number = 0; number <= 9; number++) {
            int due = twin.account(number) + (number == reason ? 1 : 0);
            equal(what + ", account " + number, due, object.account(number));
        }
        equal(what + " changes nothing but the accounts", allButAccounts(twin), allButAccounts(object));
    }

    boolean hasPassed() {
        return wrong == 0 && right > 0;
    }

    void end() {
        System.out.println(title + ": " + right + " right, " + wrong + " wrong");
        if (!hasPassed()) {
            System.exit(1);
        }
    }

    interface Call {
        Object on(LayeredChute object);
    }

    static String outcome(Call call, LayeredChute object) {
        try {
            return String.valueOf(call.on(object));
        } catch (RuntimeException e) {
            return e.getClass().getSimpleName();
        }
    }

    static LayeredChute made(String setup) {
        LayeredChute object = new LayeredChute();
        int chutes = load(object, setup);
        if (chutes < 0) {
            throw new AssertionError("the setup has an error at " + object.errorPosition() + ": " + setup);
        }
        return object;
    }

    /** Appends a text, twenty bytes a call. */
    static int append(LayeredChute object, String text) {
        int length = object.append(0, 0, 0, 0, 0);
        for (int at = 0; at < text.length(); at += 20) {
            int[] packed = new int[5];
            for (int i = 0; i < 20; i++) {
                int next = at + i < text.length() ? text.charAt(at + i) : 0;
                packed[i / 4] |= next << 24 - i % 4 * 8;
            }
            length = object.append(packed[0], packed[1], packed[2], packed[3], packed[4]);
        }
        return length;
    }

    static int load(LayeredChute object, String setup) {
        append(object, setup);
        return object.load();
    }

    static int play(LayeredChute object, String script) {
        append(object, script);
        return object.play();
    }

    static String written(LayeredChute object) {
        return outputOf(object, object.write());
    }

    static String outputOf(LayeredChute object, int length) {
        StringBuilder text = new StringBuilder();
        for (int i = 0; i < length; i++) {
            text.append((char) object.output(i));
        }
        return text.toString();
    }

    static String event(LayeredChute object, int index) {
        return object.event(index, 0) + " " + object.event(index, 1) + " " + object.event(index, 2)
                + " " + object.event(index, 3);
    }

    /** All kept events, a comma between two. */
    static String events(LayeredChute object) {
        StringBuilder text = new StringBuilder();
        int count = object.size(8);
        for (int i = 0; i < count; i++) {
            text.append(i > 0 ? ", " : "").append(event(object, i));
        }
        return text.toString();
    }

    /** HEIGHT, SPEED, X, HEAT and TIME. */
    static String fall(LayeredChute object) {
        return object.capsule(0) + " " + object.capsule(1) + " " + object.capsule(2) + " "
                + object.capsule(4) + " " + object.capsule(6);
    }

    static String states(LayeredChute object) {
        StringBuilder text = new StringBuilder();
        int chutes = object.size(0) + object.size(1);
        for (int chute = 0; chute < chutes; chute++) {
            text.append(object.chute(chute, 5));
        }
        return text.toString();
    }

    /** The numbers of capsule(). */
    static String capsule(LayeredChute object) {
        return numbers(9, what -> object.capsule(what));
    }

    /** The numbers of size(). */
    static String sizes(LayeredChute object) {
        return numbers(16, what -> object.size(what));
    }

    /** The numbers of chute(). */
    static String chute(LayeredChute object, int chute) {
        return numbers(8, what -> object.chute(chute, what));
    }

    /** The strengths of the lines of a chute. */
    static String lines(LayeredChute object, int chute) {
        return numbers(object.chute(chute, 1), line -> object.line(chute, line));
    }

    static String whys(LayeredChute object) {
        return numbers(object.size(0), layer -> object.why(layer));
    }

    static String spot(LayeredChute object, int spot) {
        return numbers(3, what -> object.spot(spot, what));
    }

    static String accounts(LayeredChute object) {
        return numbers(10, what -> object.account(what));
    }

    /** A space between two numbers. */
    private static String numbers(int count, IntUnaryOperator asked) {
        StringBuilder text = new StringBuilder();
        for (int i = 0; i < count; i++) {
            text.append(i > 0 ? " " : "").append(asked.applyAsInt(i));
        }
        return text.toString();
    }

    /** What reading a text as a setup answers: load(), errorCode() and errorPosition(). */
    static String loaded(String text) {
        LayeredChute object = new LayeredChute();
        return load(object, text) + " " + object.errorCode() + " " + object.errorPosition();
    }

    /** What reading a text as a script answers: play(), errorCode() and errorPosition(). */
    static String played(LayeredChute object, String text) {
        return play(object, text) + " " + object.errorCode() + " " + object.errorPosition();
    }

    /** A short look at what acts change, for those who ask often. */
    static String brief(LayeredChute object) {
        return fall(object) + " " + object.capsule(5) + " " + states(object) + " " + object.size(2) + " "
                + object.size(8) + " " + object.size(9) + " " + object.account(0);
    }

    /** All that undo() and restore() bring back, as far as it can be asked for. */
    static String world(LayeredChute object) {
        StringBuilder text = new StringBuilder();
        text.append(capsule(object)).append('|');
        for (int what = 0; what <= 15; what++) {
            text.append(what == 9 ? 0 : object.size(what)).append(' ');
        }
        int chutes = object.size(0) + object.size(1);
        for (int chute = 0; chute < chutes; chute++) {
            text.append('|').append(chute(object, chute));
        }
        int[] heights = {0, 500, 1000, 2000, 30000};
        for (int height : heights) {
            text.append('|').append(object.targetAt(height)).append('/').append(object.windAt(height));
        }
        for (int spot = 0; spot < object.size(4); spot++) {
            text.append('|').append(spot(object, spot));
        }
        return text.append('|').append(events(object)).toString();
    }

    /** Everything that can be asked for; the acts that can be undone are undone by it. */
    static String everything(LayeredChute object) {
        return "accounts " + accounts(object) + '\n' + allButAccounts(object);
    }

    static String allButAccounts(LayeredChute object) {
        StringBuilder text = new StringBuilder(world(object));
        text.append("\ntext ").append(object.append(0, 0, 0, 0, 0)).append(" error ")
                .append(object.errorCode()).append(' ').append(object.errorPosition());
        text.append("\noutput ");
        int index = 0;
        String next = outcome(o -> o.output(0), object);
        while (!next.equals("IndexOutOfBoundsException") && index < 64) {
            text.append(next).append(' ');
            index++;
            int asked = index;
            next = outcome(o -> o.output(asked), object);
        }
        text.append("\nfuture ").append(object.landIn()).append(' ').append(object.hottest());
        while (object.size(9) > 0) {
            object.undo();
            text.append("\nundo ").append(fall(object)).append(' ').append(states(object));
        }
        for (int slot = 0; slot < 2; slot++) {
            int asked = slot;
            text.append("\nsaved ").append(outcome(o -> o.restore(asked), object)).append(' ')
                    .append(fall(object)).append(' ').append(states(object));
        }
        return text.toString();
    }
}
