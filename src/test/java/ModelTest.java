import java.lang.reflect.InvocationTargetException;
import java.lang.reflect.Method;
import java.util.HashMap;
import java.util.Map;
import java.util.Random;

/** Long runs of calls, drawn with written seeds, of which each answer must be that of the plain Model. */
public class ModelTest {
    private static final int RUNS = 1000;
    private static final int CALLS = 500;

    private static final String[] ASKING = {"errorCode", "errorPosition", "capsule", "size", "chute", "line",
        "targetAt", "windAt", "spot", "event", "account", "asks", "why", "whyReserve", "loadOn", "wouldTear",
        "share", "meanSpeed", "output", "write"};
    private static final String[] FORETELLING = {"landIn", "landAt", "landSpeed", "landResult", "failsIn",
        "reserveIn", "hottest", "bestSlip", "reachable"};
    private static final String[] ACTING = {"tick", "fallTo", "open", "openReserve", "cut", "steer", "setTarget",
        "jam", "tick", "open", "openReserve", "steer"};
    private static final String[] KEEPING = {"undo", "undo", "undo", "save", "restore"};

    private final Random random;
    private final Map<String, Method> methods = new HashMap<>();
    private final Map<String, Integer> seen;
    private LayeredChute object = new LayeredChute();
    private Model model = new Model();
    private int calls;
    private int wrong;
    private boolean isFeather;

    private ModelTest(int seed, Map<String, Integer> seen) {
        random = new Random(seed);
        this.seen = seen;
        for (Method method : LayeredChute.class.getDeclaredMethods()) {
            methods.put(method.getName(), method);
        }
    }

    public static void main(String[] arguments) {
        Check check = new Check("ModelTest");
        Map<String, Integer> seen = new HashMap<>();
        for (int seed = 1; seed <= RUNS; seed++) {
            ModelTest run = new ModelTest(seed, seen);
            run.go();
            check.equal("wrong answers of run " + seed, 0, run.wrong);
        }
        everyAnswerIsMet(check, seen);
        check.end();
    }

    /** The runs would prove little if they never met the rarer answers. */
    private static void everyAnswerIsMet(Check check, Map<String, Integer> seen) {
        String[] rare = {"landIn -1", "landAt NoSuchElementException", "landSpeed -1", "landResult -1", "bestSlip -1",
            "landResult 1", "landResult 2", "landResult 3", "tick -1", "fallTo -1", "fallTo -2", "fallTo 3000",
            "open -1", "open -3", "open -4", "open -5", "open 1", "open 3", "openReserve -1", "openReserve -3",
            "openReserve -4", "openReserve -6", "openReserve -7", "openReserve 1", "openReserve 2", "cut -1",
            "cut -8", "cut 0", "cut 1", "cut 2", "steer -1", "steer -8", "steer 9", "setTarget -9", "setTarget 8",
            "jam -3", "jam 0", "jam 2", "why 0", "why 1", "why 2", "why 3", "why 4", "why 5", "why 6", "why 7",
            "why 8", "whyReserve 0", "whyReserve 1", "whyReserve 2", "whyReserve 3", "whyReserve 4",
            "whyReserve 5", "whyReserve 6", "whyReserve 7", "errorCode 0", "errorCode 1", "errorCode 2",
            "errorCode 3", "errorCode 4", "append IllegalStateException", "undo 7", "undo IllegalStateException",
            "restore IllegalStateException", "wouldTear 1", "wouldTear 2", "reserveIn 0", "reserveIn 1",
            "failsIn 0", "failsIn 1", "failsIn 3", "asks true", "asks false", "line -1"};
        for (String answer : rare) {
            check.equal("some run answers " + answer, true, seen.containsKey(answer));
        }
    }

    private void go() {
        readText("load", setup());
        while (calls < CALLS && wrong == 0) {
            int draw = random.nextInt(100);
            if (model.now.height == 0 && draw % 10 == 0) {
                readText("load", setup());
            } else if (draw < 45) {
                one(any(ASKING));
            } else if (draw < (isFeather ? 47 : 60)) {
                one(any(FORETELLING));
            } else if (draw < 85) {
                one(any(ACTING));
            } else if (draw < 94) {
                one(any(KEEPING));
            } else if (draw < 97) {
                readText("play", script());
            } else if (draw < 99) {
                readText("load", setup());
            } else {
                fillUp();
            }
        }
    }

    private void readText(String reading, String text) {
        String read = random.nextInt(4) == 0 ? spoilt(text) : text;
        for (int at = 0; at < read.length(); at += 20) {
            int[] packed = new int[5];
            for (int i = 0; i < 20 && at + i < read.length(); i++) {
                packed[i / 4] |= read.charAt(at + i) << 24 - i % 4 * 8;
            }
            call("append", packed);
        }
        call(reading);
        call("errorCode");
        call("errorPosition");
    }

    private void fillUp() {
        int part = random.nextBoolean() ? 0x20200a20 : random.nextInt();
        int appends = random.nextBoolean() ? 36 : 2;
        for (int i = 0; i < appends; i++) {
            call("append", part, part, part & random.nextInt(), part, part);
        }
        call(random.nextBoolean() ? "load" : "play");
        call("errorCode");
        call("errorPosition");
    }

    /** One call of an asking, foretelling, acting or keeping method, with arguments that mostly fit. */
    private void one(String name) {
        int layers = model.now.layers.size();
        int chutes = model.now.chutes().size();
        switch (name) {
            case "capsule":
                call(name, near(9));
                break;
            case "size":
                call(name, near(16));
                break;
            case "account":
                call(name, near(10));
                break;
            case "output":
                call(name, near(30));
                break;
            case "save":
            case "restore":
                call(name, near(2));
                break;
            case "chute":
                call(name, near(chutes), near(8));
                break;
            case "line":
                call(name, near(chutes), near(12));
                break;
            case "spot":
                call(name, near(model.now.spots.size()), near(3));
                break;
            case "event":
                call(name, near(Math.min(30, model.now.events.size())), near(4));
                break;
            case "why":
            case "open":
                call(name, near(layers));
                break;
            case "jam":
                call(name, near(layers), random.nextInt(2));
                break;
            case "loadOn":
            case "wouldTear":
            case "failsIn":
            case "cut":
                call(name, near(chutes));
                break;
            case "bestSlip":
                call(name, near(model.now.spots.size()));
                break;
            case "tick":
                call(name, random.nextInt(10) > 0 ? 1 + random.nextInt(4) : near(202));
                break;
            case "steer":
                call(name, near(19) - 9);
                break;
            case "targetAt":
            case "windAt":
                call(name, someHeight());
                break;
            case "fallTo":
                call(name, random.nextInt(5) > 0 ? model.now.height - random.nextInt(300) : someHeight());
                break;
            case "setTarget":
                call(name, someHeight(), random.nextInt(20) > 0 ? 1 + random.nextInt(60) : near(402));
                break;
            default:
                call(name);
                break;
        }
    }

    /** A number that is mostly 0 to below - 1, now and then beside it or far off. */
    private int near(int below) {
        int draw = random.nextInt(40);
        if (draw == 0) {
            return -1;
        }
        if (draw == 1) {
            return below;
        }
        if (draw == 2) {
            return random.nextInt();
        }
        return below > 0 ? random.nextInt(below) : 0;
    }

    private int someHeight() {
        int draw = random.nextInt(20);
        if (draw == 0) {
            return new int[] {-1, 0, 1, 30000, 30001, Integer.MIN_VALUE, Integer.MAX_VALUE}[random.nextInt(7)];
        }
        if (draw < 8 && !model.now.targets.isEmpty()) {
            return model.now.targets.firstKey() + random.nextInt(3) - 1;
        }
        return draw < 12 ? model.now.height + random.nextInt(3) - 1 : random.nextInt(1 + model.now.start);
    }

    private void call(String name, int... arguments) {
        if (calls >= 512 || wrong > 0) {
            return;
        }
        calls++;
        String due = String.valueOf(model.call(name, arguments));
        String answer = answer(name, arguments);
        seen.merge(name + " " + due, 1, Integer::sum);
        if (!due.equals(answer)) {
            wrong++;
            System.out.println("call " + calls + ", " + name + java.util.Arrays.toString(arguments) + ": due " + due
                    + ", answered " + answer);
        }
    }

    private String answer(String name, int[] arguments) {
        Method method = methods.get(name);
        Object[] handed = new Object[arguments.length];
        for (int i = 0; i < handed.length; i++) {
            boolean isTruth = method.getParameterTypes()[i] == boolean.class;
            handed[i] = isTruth ? (Object) (arguments[i] != 0) : (Object) arguments[i];
        }
        try {
            return String.valueOf(method.invoke(object, handed));
        } catch (InvocationTargetException e) {
            return e.getCause().getClass().getSimpleName();
        } catch (IllegalAccessException e) {
            throw new AssertionError(e);
        }
    }

    // ---- texts

    private String any(String... words) {
        return words[random.nextInt(words.length)];
    }

    private int from(int least, int most) {
        return least + random.nextInt(most - least + 1);
    }

    private String setup() {
        StringBuilder text = new StringBuilder();
        isFeather = random.nextInt(20) == 0;
        int height = isFeather ? from(20000, 30000) : from(1, new int[] {100, 3000, 3000, 30000}[random.nextInt(4)]);
        int speed = isFeather ? from(0, 5) : from(0, random.nextInt(3) == 0 ? 400 : 90);
        int mass = isFeather ? 1 : from(1, random.nextBoolean() ? 99 : 20);
        text.append("capsule ").append(height).append(' ').append(speed).append(' ').append(mass).append(';');
        int layers = from(isFeather ? 1 : 0, random.nextInt(6) == 0 ? 9 : 4);
        boolean isBusy = random.nextInt(3) == 0;
        for (int i = 0; i < layers; i++) {
            text.append("layer ").append(canopy(height)).append(" under ").append(from(1, isBusy ? Math.min(400, speed + 20) : 400));
            text.append(random.nextInt(isBusy ? 2 : 4) == 0 ? " jammed;" : ";");
        }
        if (isBusy) {
            text.append("target 30000 ").append(from(1, 30)).append(";reserve ").append(canopy(height));
            text.append(" after ").append(from(1, 2)).append(';');
        }
        for (int i = 0; i < 12 && text.length() < 560; i++) {
            text.append(smallStatement(height));
        }
        return text.toString();
    }

    private String canopy(int height) {
        int area = isFeather ? 99 : from(1, random.nextBoolean() ? 99 : 20);
        int strength = from(1, new int[] {30, 100, 400, 9999}[random.nextInt(4)]);
        return area + " " + from(1, 12) + " " + strength + " below " + from(1, Math.min(30000, height * 2 + 1));
    }

    private String smallStatement(int height) {
        switch (random.nextInt(7)) {
            case 0:
                return random.nextInt(3) > 0 ? "" : "reserve " + canopy(height) + " after " + from(1, 3) + ";";
            case 1:
            case 2:
                return "target " + from(1, Math.min(30000, height + 100)) + " " + from(1, 50) + ";";
            case 3:
                return "wind " + from(0, height) + any(" ", "-", " - ") + from(0, 12) + ";";
            case 4:
                int first = from(-300, 200);
                return "spot " + first + " " + (first + from(random.nextInt(8) == 0 ? -3 : 0, 120)) + " " + from(1, 60)
                        + ";";
            case 5:
                return random.nextInt(4) > 0 ? "" : "cool " + from(0, random.nextBoolean() ? 99 : 9) + ";";
            default:
                return any("", "", "\n", "  ");
        }
    }

    private String script() {
        StringBuilder text = new StringBuilder();
        int commands = random.nextInt(12) == 0 ? from(39, 42) : from(0, 8);
        for (int i = 0; i < commands; i++) {
            text.append(command());
        }
        return text.toString();
    }

    private String command() {
        switch (random.nextInt(6)) {
            case 0:
                return "tick " + from(1, 3) + ";";
            case 1:
                return "fall " + Math.max(0, model.now.height - from(-5, 200)) + ";";
            case 2:
                return "open " + from(0, Math.max(0, model.now.layers.size() - 1)) + any("", "", "\n") + ";";
            case 3:
                return "reserve;";
            case 4:
                return "cut " + from(0, Math.max(0, model.now.chutes().size() - 1)) + ";";
            default:
                return "steer" + any(" ", " -", "- ") + from(0, 9) + ";";
        }
    }

    /** The text with a part left out, doubled or replaced. */
    private String spoilt(String text) {
        String[] parts = {"-", ";", " ", "0", "1", "9", "30001", "00000000000000000000000000007", "layer", "reserve",
            "capsule", "tick", "cool 5;", "A", "\t", "\u00ff", "\u0001", "99999999999999999999", "4294967297"};
        int from = random.nextInt(text.length() + 1);
        int to = Math.min(text.length(), from + random.nextInt(4));
        return text.substring(0, from) + (random.nextInt(3) > 0 ? any(parts) : "") + text.substring(to);
    }
}
