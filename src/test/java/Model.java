import java.math.BigInteger;
import java.util.ArrayList;
import java.util.List;
import java.util.Map;
import java.util.TreeMap;

/**
 * The document once more, told as plainly and wastefully as can be, for ModelTest to compare with. It shares
 * nothing with the class, so that a fault of the one is not a fault of the other.
 */
final class Model {
    static final String ILLEGAL = "IllegalArgumentException";
    static final String BOUNDS = "IndexOutOfBoundsException";
    static final String STATE = "IllegalStateException";
    static final String MISSING = "NoSuchElementException";

    static final class Canopy {
        int area;
        int lines;
        int strength;
        int ceiling;
        int limit;
        int state;
        boolean jammed;
        boolean[] torn;

        Canopy copy() {
            Canopy copy = new Canopy();
            copy.area = area;
            copy.lines = lines;
            copy.strength = strength;
            copy.ceiling = ceiling;
            copy.limit = limit;
            copy.state = state;
            copy.jammed = jammed;
            copy.torn = torn.clone();
            return copy;
        }

        int there() {
            int count = 0;
            for (boolean isTorn : torn) {
                count += isTorn ? 0 : 1;
            }
            return count;
        }
    }

    static final class State {
        int height;
        int start;
        int speed;
        int x;
        int mass;
        int heat;
        int slip;
        int time;
        int cool = 20;
        long gains;
        List<Canopy> layers = new ArrayList<>();
        Canopy reserve;
        TreeMap<Integer, Integer> targets = new TreeMap<>();
        TreeMap<Integer, Integer> winds = new TreeMap<>();
        List<int[]> spots = new ArrayList<>();
        List<int[]> events = new ArrayList<>();

        State copy() {
            State copy = new State();
            copy.height = height;
            copy.start = start;
            copy.speed = speed;
            copy.x = x;
            copy.mass = mass;
            copy.heat = heat;
            copy.slip = slip;
            copy.time = time;
            copy.cool = cool;
            copy.gains = gains;
            for (Canopy layer : layers) {
                copy.layers.add(layer.copy());
            }
            copy.reserve = reserve == null ? null : reserve.copy();
            copy.targets = new TreeMap<>(targets);
            copy.winds = new TreeMap<>(winds);
            copy.spots = new ArrayList<>(spots);
            copy.events = new ArrayList<>(events);
            return copy;
        }

        List<Canopy> chutes() {
            List<Canopy> all = new ArrayList<>(layers);
            if (reserve != null) {
                all.add(reserve);
            }
            return all;
        }

        int air() {
            return 100 - height / 400;
        }

        int target(int at) {
            Map.Entry<Integer, Integer> entry = targets.ceilingEntry(at);
            return entry == null ? -1 : entry.getValue();
        }

        int wind(int at) {
            Map.Entry<Integer, Integer> entry = winds.floorEntry(at);
            return entry == null ? 0 : entry.getValue();
        }

        boolean asks() {
            return target(height) != -1 && speed > target(height);
        }

        boolean layerMayOpen(Canopy layer) {
            return layer.state == 0 && height <= layer.ceiling && speed <= layer.limit;
        }

        boolean someLayerMayOpen() {
            for (Canopy layer : layers) {
                if (layerMayOpen(layer)) {
                    return true;
                }
            }
            return false;
        }

        int failed() {
            int count = 0;
            for (Canopy layer : layers) {
                count += layer.state == 2 || layer.state == 3 ? 1 : 0;
            }
            return count;
        }

        int open() {
            int count = 0;
            for (Canopy chute : chutes()) {
                count += chute.state == 1 ? 1 : 0;
            }
            return count;
        }

        void tell(int kind, int chute, int number) {
            events.add(new int[] {time, kind, chute, number});
        }

        int pull(Canopy chute) {
            return big(chute.area).multiply(big(air())).multiply(big(speed)).multiply(big(speed))
                    .divide(big(10000)).intValueExact();
        }

        int load(Canopy chute, int lines) {
            BigInteger all = big(pull(chute)).multiply(big(100 + 5 * Math.abs(slip))).divide(big(100));
            BigInteger[] parts = all.divideAndRemainder(big(lines));
            return parts[0].intValueExact() + (parts[1].signum() > 0 ? 1 : 0);
        }

        boolean holds(Canopy chute, int line, int load) {
            return (chute.strength + 3 * line) * (1000 - heat) / 1000 >= load;
        }

        int tear(Canopy chute) {
            int all = 0;
            int latest = 1;
            while (latest > 0 && chute.there() > 0) {
                latest = 0;
                int load = load(chute, chute.there());
                for (int line = 0; line < chute.lines; line++) {
                    if (!chute.torn[line] && !holds(chute, line, load)) {
                        chute.torn[line] = true;
                        latest++;
                    }
                }
                all += latest;
            }
            return all;
        }

        int result() {
            if (height > 0) {
                return 0;
            }
            for (int[] spot : spots) {
                if (x >= spot[0] && x <= spot[1]) {
                    return speed <= spot[2] ? 1 : 2;
                }
            }
            return 3;
        }

        void openLayer(int number) {
            Canopy layer = layers.get(number);
            layer.state = layer.jammed ? 3 : 1;
            tell(layer.jammed ? 3 : 0, number, speed);
        }

        void openReserve() {
            reserve.state = 1;
            tell(4, layers.size(), failed());
        }

        void second() {
            int air = air();
            if (asks()) {
                boolean opened = false;
                for (int i = 0; i < layers.size() && !opened; i++) {
                    if (layerMayOpen(layers.get(i))) {
                        openLayer(i);
                        opened = true;
                    }
                }
                if (!opened && reserve != null && reserve.state == 0 && height <= reserve.ceiling
                        && failed() >= reserve.limit) {
                    openReserve();
                }
            }
            int brake = 2 * air * speed * speed / 10000;
            for (int i = 0; i < chutes().size(); i++) {
                Canopy chute = chutes().get(i);
                if (chute.state != 1) {
                    continue;
                }
                int tore = tear(chute);
                if (tore > 0) {
                    tell(1, i, tore);
                }
                if (chute.there() == 0) {
                    chute.state = 2;
                    tell(2, i, chute.area);
                } else {
                    brake += pull(chute);
                }
            }
            int a = speed + 10 - brake / mass;
            int b = speed / 2;
            speed = a > b ? a : b;
            speed = speed < 1 ? 1 : speed;
            int gain = speed * speed * air / 100000;
            gains += gain;
            heat = heat + gain - cool;
            heat = heat < 0 ? 0 : heat;
            heat = heat > 999 ? 999 : heat;
            if (open() > 0) {
                x = x + wind(height) + slip;
            }
            height = height - speed;
            if (height <= 0) {
                height = 0;
                tell(6, -1, result());
            }
            time++;
        }

        private static BigInteger big(int number) {
            return BigInteger.valueOf(number);
        }
    }

    /** One token of a text, with the index of its first byte. */
    private static final class Token {
        final String text;
        final int at;

        Token(String text, int at) {
            this.text = text;
            this.at = at;
        }

        boolean isNumber() {
            return !text.isEmpty() && Character.isDigit(text.charAt(0));
        }
    }

    private static final class Wrong extends RuntimeException {
        private static final long serialVersionUID = 1L;
        final int code;
        final int at;

        Wrong(int code, int at) {
            this.code = code;
            this.at = at;
        }
    }

    State now = new State();
    private String text = "";
    private String output = "";
    private int code;
    private int place = -1;
    private final int[] accounts = new int[10];
    private final List<State> before = new ArrayList<>();
    private final State[] saved = new State[2];
    private List<Token> tokens;
    private int next;

    Model() {
        now.height = 3000;
        now.start = 3000;
        now.speed = 100;
        now.mass = 10;
    }

    Object call(String name, int... a) {
        switch (name) {
            case "append":
                return append(a);
            case "load":
                return loadText();
            case "play":
                return playText();
            case "errorCode":
                return code;
            case "errorPosition":
                return place;
            case "write":
                return write();
            case "output":
                return a[0] < 0 || a[0] >= output.length() ? BOUNDS : (Object) (int) output.charAt(a[0]);
            case "account":
                return a[0] < 0 || a[0] > 9 ? ILLEGAL : (Object) accounts[a[0]];
            case "undo":
                return undo();
            case "save":
                return save(a[0]);
            case "restore":
                return restore(a[0]);
            case "tick":
            case "fallTo":
            case "open":
            case "openReserve":
            case "cut":
            case "steer":
            case "setTarget":
            case "jam":
                return act(name, a);
            case "landIn":
            case "landAt":
            case "landSpeed":
            case "landResult":
            case "failsIn":
            case "reserveIn":
            case "hottest":
            case "bestSlip":
            case "reachable":
                return foretell(name, a);
            default:
                return ask(name, a);
        }
    }

    private Object append(int[] a) {
        StringBuilder more = new StringBuilder();
        for (int packed : a) {
            for (int part = 3; part >= 0; part--) {
                char next = (char) ((packed >> 8 * part) & 0xff);
                if (next != 0) {
                    more.append(next);
                }
            }
        }
        if (text.length() + more.length() > 600) {
            return STATE;
        }
        text += more;
        return text.length();
    }

    // ---- what there is

    private Object ask(String name, int[] a) {
        List<Canopy> chutes = now.chutes();
        switch (name) {
            case "capsule":
                int[] numbers = {now.height, now.speed, now.x, now.mass, now.heat, now.slip, now.time, now.air(),
                    now.result()};
                return a[0] < 0 || a[0] > 8 ? ILLEGAL : (Object) numbers[a[0]];
            case "size":
                return size(a[0]);
            case "chute":
                return a[0] < 0 || a[0] >= chutes.size() ? BOUNDS : chute(chutes.get(a[0]), a[1]);
            case "line":
                if (a[0] < 0 || a[0] >= chutes.size() || a[1] < 0 || a[1] >= chutes.get(a[0]).lines) {
                    return BOUNDS;
                }
                return chutes.get(a[0]).torn[a[1]] ? -1 : chutes.get(a[0]).strength + 3 * a[1];
            case "targetAt":
                return a[0] < 0 || a[0] > 30000 ? ILLEGAL : (Object) now.target(a[0]);
            case "windAt":
                return a[0] < 0 || a[0] > 30000 ? ILLEGAL : (Object) now.wind(a[0]);
            case "spot":
                if (a[0] < 0 || a[0] >= now.spots.size()) {
                    return BOUNDS;
                }
                return a[1] < 0 || a[1] > 2 ? ILLEGAL : (Object) now.spots.get(a[0])[a[1]];
            case "event":
                List<int[]> kept = kept();
                if (a[0] < 0 || a[0] >= kept.size()) {
                    return MISSING;
                }
                return a[1] < 0 || a[1] > 3 ? ILLEGAL : (Object) kept.get(a[0])[a[1]];
            case "asks":
                return now.asks();
            case "why":
                return a[0] < 0 || a[0] >= now.layers.size() ? BOUNDS : (Object) why(a[0]);
            case "whyReserve":
                return whyReserve();
            case "loadOn":
                if (a[0] < 0 || a[0] >= chutes.size()) {
                    return BOUNDS;
                }
                Canopy loaded = chutes.get(a[0]);
                return loaded.state == 1 ? now.load(loaded, loaded.there()) : 0;
            case "wouldTear":
                if (a[0] < 0 || a[0] >= chutes.size()) {
                    return BOUNDS;
                }
                return chutes.get(a[0]).state == 1 ? now.tear(chutes.get(a[0]).copy()) : 0;
            case "share":
                return lines(0) == 0 ? 0.0f : (float) lines(1) / (float) lines(0);
            case "meanSpeed":
                return now.time == 0 ? 0.0 : (double) (now.start - now.height) / (double) now.time;
            default:
                throw new AssertionError(name);
        }
    }

    private List<int[]> kept() {
        return now.events.subList(Math.max(0, now.events.size() - 30), now.events.size());
    }

    /** 0 the lines of all chutes, 1 those there, 2 those torn, 3 those cut away. */
    private int lines(int which) {
        int[] counts = new int[4];
        for (Canopy chute : now.chutes()) {
            for (boolean isTorn : chute.torn) {
                counts[0]++;
                counts[isTorn ? 2 : chute.state == 4 ? 3 : 1]++;
            }
        }
        return counts[which];
    }

    private Object size(int what) {
        if (what < 0 || what > 15) {
            return ILLEGAL;
        }
        int[] numbers = {now.layers.size(), now.reserve == null ? 0 : 1, now.targets.size(), now.winds.size(),
            now.spots.size(), now.cool, now.open(), now.failed(), kept().size(), before.size(), lines(0), lines(1),
            lines(2), lines(3), now.start - now.height, (int) now.gains};
        return numbers[what];
    }

    private static Object chute(Canopy chute, int what) {
        if (what < 0 || what > 7) {
            return ILLEGAL;
        }
        int[] numbers = {chute.area, chute.lines, chute.strength, chute.ceiling, chute.limit, chute.state,
            chute.state == 4 ? 0 : chute.there(), chute.jammed ? 1 : 0};
        return numbers[what];
    }

    private int why(int number) {
        Canopy layer = now.layers.get(number);
        if (layer.state > 0) {
            return new int[] {-1, 0, 1, 2, 3}[layer.state];
        }
        if (now.height > layer.ceiling) {
            return 4;
        }
        if (now.speed > layer.limit) {
            return 5;
        }
        if (!now.asks()) {
            return 6;
        }
        for (int lower = 0; lower < number; lower++) {
            if (now.layerMayOpen(now.layers.get(lower))) {
                return 7;
            }
        }
        return 8;
    }

    private int whyReserve() {
        if (now.reserve == null) {
            return 1;
        }
        if (now.reserve.state == 1) {
            return 0;
        }
        if (now.reserve.state != 0) {
            return 2;
        }
        if (now.height > now.reserve.ceiling) {
            return 3;
        }
        if (now.failed() < now.reserve.limit) {
            return 4;
        }
        if (now.someLayerMayOpen()) {
            return 5;
        }
        return now.asks() ? 7 : 6;
    }

    // ---- foretelling

    private State landing(State from) {
        State state = from.copy();
        for (int seconds = 0; seconds < 3000 && state.height > 0; seconds++) {
            state.second();
        }
        return state.height == 0 ? state : null;
    }

    private State landingWith(int slip) {
        State state = now.copy();
        state.slip = slip;
        return landing(state);
    }

    private Object foretell(String name, int[] a) {
        State land = landing(now);
        switch (name) {
            case "landIn":
                return land == null ? -1 : land.time - now.time;
            case "landAt":
                return land == null ? MISSING : (Object) land.x;
            case "landSpeed":
                return land == null ? -1 : land.speed;
            case "landResult":
                return land == null ? -1 : land.result();
            case "failsIn":
                return a[0] < 0 || a[0] >= now.chutes().size() ? BOUNDS : (Object) behind(a[0], 2, 3);
            case "reserveIn":
                return now.reserve == null ? -1 : behind(now.layers.size(), 1, 1);
            case "hottest":
                int hottest = now.heat;
                State state = now.copy();
                for (int seconds = 0; seconds < 3000 && state.height > 0; seconds++) {
                    state.second();
                    hottest = Math.max(hottest, state.heat);
                }
                return hottest;
            case "bestSlip":
                return a[0] < 0 || a[0] >= now.spots.size() ? BOUNDS : (Object) bestSlip(now.spots.get(a[0]));
            default:
                return reachable();
        }
    }

    private int behind(int chute, int state, int otherState) {
        State later = now.copy();
        for (int seconds = 0; seconds <= 3000; seconds++) {
            int is = later.chutes().get(chute).state;
            if (is == state || is == otherState) {
                return seconds;
            }
            if (later.height == 0) {
                return -1;
            }
            later.second();
        }
        return -1;
    }

    private int bestSlip(int[] spot) {
        int best = -1;
        int[] bestRank = null;
        for (int slip = -9; slip <= 9; slip++) {
            State land = landingWith(slip);
            if (land == null) {
                continue;
            }
            int distance = land.x < spot[0] ? spot[0] - land.x : land.x > spot[1] ? land.x - spot[1] : 0;
            int[] rank = {distance, Math.abs(slip), slip > 0 ? 1 : 0};
            if (bestRank == null || java.util.Arrays.compare(rank, bestRank) < 0) {
                best = slip + 9;
                bestRank = rank;
            }
        }
        return best;
    }

    private int reachable() {
        boolean[] reached = new boolean[now.spots.size()];
        for (int slip = -9; slip <= 9; slip++) {
            State land = landingWith(slip);
            for (int i = 0; i < reached.length; i++) {
                reached[i] |= land != null && land.x >= now.spots.get(i)[0] && land.x <= now.spots.get(i)[1];
            }
        }
        int set = 0;
        for (int i = 0; i < reached.length; i++) {
            set += reached[i] ? (int) Math.pow(2, i) : 0;
        }
        return set;
    }

    // ---- acts

    private Object act(String name, int[] a) {
        Object thrown = exceptionOf(name, a);
        if (thrown != null) {
            return thrown;
        }
        int reason = reasonOf(name, a);
        if (reason > 0) {
            accounts[reason]++;
            return -reason;
        }
        accounts[0]++;
        before.add(now.copy());
        if (before.size() > 8) {
            before.remove(0);
        }
        return done(name, a);
    }

    private Object exceptionOf(String name, int[] a) {
        switch (name) {
            case "tick":
                return a[0] < 1 || a[0] > 200 ? ILLEGAL : null;
            case "fallTo":
                return a[0] < 0 || a[0] > 30000 ? ILLEGAL : null;
            case "open":
            case "jam":
                return a[0] < 0 || a[0] >= now.layers.size() ? BOUNDS : null;
            case "cut":
                return a[0] < 0 || a[0] >= now.chutes().size() ? BOUNDS : null;
            case "steer":
                return a[0] < -9 || a[0] > 9 ? ILLEGAL : null;
            case "setTarget":
                return a[0] < 1 || a[0] > 30000 || a[1] < 1 || a[1] > 400 ? ILLEGAL : null;
            default:
                return null;
        }
    }

    private int reasonOf(String name, int[] a) {
        boolean landed = now.height == 0;
        switch (name) {
            case "tick":
                return landed ? 1 : 0;
            case "fallTo":
                return landed ? 1 : now.height <= a[0] ? 2 : 0;
            case "open":
                Canopy layer = now.layers.get(a[0]);
                return landed ? 1 : layer.state != 0 ? 3 : now.height > layer.ceiling ? 4
                        : now.speed > layer.limit ? 5 : 0;
            case "openReserve":
                Canopy reserve = now.reserve;
                return landed ? 1 : reserve == null || reserve.state != 0 ? 3 : now.height > reserve.ceiling ? 4
                        : now.failed() < reserve.limit ? 6 : now.someLayerMayOpen() ? 7 : 0;
            case "cut":
                return landed ? 1 : now.chutes().get(a[0]).state != 1 ? 8 : 0;
            case "steer":
                return landed ? 1 : now.open() == 0 ? 8 : 0;
            case "setTarget":
                return !now.targets.containsKey(a[0]) && now.targets.size() == 8 ? 9 : 0;
            default:
                return now.layers.get(a[0]).state != 0 ? 3 : 0;
        }
    }

    private Object done(String name, int[] a) {
        int time = now.time;
        switch (name) {
            case "tick":
                while (now.time - time < a[0] && now.height > 0) {
                    now.second();
                }
                return now.time - time;
            case "fallTo":
                while (now.time - time < 3000 && now.height > a[0]) {
                    now.second();
                }
                return now.time - time;
            case "open":
                now.openLayer(a[0]);
                return now.layers.get(a[0]).state;
            case "openReserve":
                now.openReserve();
                return now.failed();
            case "cut":
                Canopy chute = now.chutes().get(a[0]);
                now.tell(5, a[0], chute.there());
                chute.state = 4;
                return now.open();
            case "steer":
                int slip = now.slip;
                now.slip = a[0];
                return slip + 9;
            case "setTarget":
                now.targets.put(a[0], a[1]);
                return now.targets.size();
            default:
                now.layers.get(a[0]).jammed = a[1] != 0;
                int jammed = 0;
                for (Canopy layer : now.layers) {
                    jammed += layer.state == 0 && layer.jammed ? 1 : 0;
                }
                return jammed;
        }
    }

    // ---- output, undo, saved states

    private Object write() {
        List<String> words = new ArrayList<>();
        for (Canopy chute : now.chutes()) {
            String word = (chute == now.reserve ? "R" : "") + "POTJC".charAt(chute.state);
            words.add(chute.state <= 1 ? word + chute.there() : word);
        }
        output = String.join(" ", words);
        return output.length();
    }

    private Object undo() {
        if (before.isEmpty()) {
            return STATE;
        }
        now = before.remove(before.size() - 1);
        return before.size();
    }

    private Object save(int slot) {
        if (slot != 0 && slot != 1) {
            return BOUNDS;
        }
        saved[slot] = now.copy();
        return now.time;
    }

    private Object restore(int slot) {
        if (slot != 0 && slot != 1) {
            return BOUNDS;
        }
        if (saved[slot] == null) {
            return STATE;
        }
        now = saved[slot].copy();
        before.clear();
        return now.time;
    }

    // ---- texts

    private Object loadText() {
        code = 0;
        place = -1;
        try {
            split();
            now = setup();
            before.clear();
            return now.chutes().size();
        } catch (Wrong wrong) {
            code = wrong.code;
            place = wrong.at;
            return -1;
        } finally {
            text = "";
        }
    }

    private Object playText() {
        code = 0;
        place = -1;
        List<Object[]> commands;
        try {
            split();
            commands = script();
        } catch (Wrong wrong) {
            code = wrong.code;
            place = wrong.at;
            return -1;
        } finally {
            text = "";
        }
        int done = 0;
        for (Object[] command : commands) {
            if ((Integer) act((String) command[0], new int[] {(Integer) command[1]}) < 0) {
                break;
            }
            done++;
        }
        return done;
    }

    /** Splits the text into tokens; a byte that belongs to none is a token of its own. */
    private void split() {
        tokens = new ArrayList<>();
        next = 0;
        java.util.regex.Matcher matcher =
                java.util.regex.Pattern.compile("[a-z]+|[0-9]+|[ \n]+|[\\x00-\\xff]").matcher(text);
        while (matcher.find()) {
            if (matcher.group().charAt(0) != ' ' && matcher.group().charAt(0) != '\n') {
                tokens.add(new Token(matcher.group(), matcher.start()));
            }
        }
        tokens.add(new Token("", text.length()));
    }

    private Token take() {
        Token token = tokens.get(next);
        next = Math.min(next + 1, tokens.size() - 1);
        return token;
    }

    private String ahead() {
        return tokens.get(next).text;
    }

    private boolean isEnd() {
        return next == tokens.size() - 1;
    }

    private void expect(String word) {
        Token token = take();
        if (!token.text.equals(word)) {
            throw new Wrong(1, token.at);
        }
    }

    private int number(int least, int most) {
        Token token = take();
        if (!token.isNumber()) {
            throw new Wrong(1, token.at);
        }
        BigInteger value = new BigInteger(token.text);
        if (value.compareTo(BigInteger.valueOf(least)) < 0 || value.compareTo(BigInteger.valueOf(most)) > 0) {
            throw new Wrong(2, token.at);
        }
        return value.intValueExact();
    }

    private int signed(int most) {
        if (ahead().equals("-")) {
            take();
            return -number(0, most);
        }
        return number(0, most);
    }

    private int atOfLast() {
        return tokens.get(next - 1).at;
    }

    private State setup() {
        State made = new State();
        expect("capsule");
        made.height = number(1, 30000);
        made.start = made.height;
        made.speed = number(0, 400);
        made.mass = number(1, 99);
        expect(";");
        while (!isEnd()) {
            statement(made);
            expect(";");
        }
        return made;
    }

    private void statement(State made) {
        Token word = take();
        switch (word.text) {
            case "layer":
                tooMany(made.layers.size() >= 8, word);
                Canopy layer = canopy();
                expect("under");
                layer.limit = number(1, 400);
                if (ahead().equals("jammed")) {
                    take();
                    layer.jammed = true;
                }
                made.layers.add(layer);
                break;
            case "reserve":
                if (made.reserve != null) {
                    throw new Wrong(3, word.at);
                }
                Canopy reserve = canopy();
                expect("after");
                reserve.limit = number(1, 8);
                made.reserve = reserve;
                break;
            case "target":
                tooMany(made.targets.size() >= 8, word);
                int targetHeight = newHeight(made.targets, 1);
                made.targets.put(targetHeight, number(1, 400));
                break;
            case "wind":
                tooMany(made.winds.size() >= 8, word);
                int windHeight = newHeight(made.winds, 0);
                made.winds.put(windHeight, signed(40));
                break;
            case "spot":
                tooMany(made.spots.size() >= 8, word);
                int first = signed(9999);
                int last = signed(9999);
                if (last < first) {
                    throw new Wrong(3, atOfLast());
                }
                made.spots.add(new int[] {first, last, number(1, 99)});
                break;
            case "cool":
                made.cool = number(0, 99);
                break;
            default:
                throw new Wrong(1, word.at);
        }
    }

    private static void tooMany(boolean isSo, Token word) {
        if (isSo) {
            throw new Wrong(4, word.at);
        }
    }

    private int newHeight(TreeMap<Integer, Integer> table, int least) {
        int height = number(least, 30000);
        if (table.containsKey(height)) {
            throw new Wrong(3, atOfLast());
        }
        return height;
    }

    private Canopy canopy() {
        Canopy chute = new Canopy();
        chute.area = number(1, 99);
        chute.lines = number(1, 12);
        chute.torn = new boolean[chute.lines];
        chute.strength = number(1, 9999);
        expect("below");
        chute.ceiling = number(1, 30000);
        return chute;
    }

    private List<Object[]> script() {
        List<Object[]> commands = new ArrayList<>();
        while (!isEnd()) {
            Token word = take();
            if (!List.of("tick", "fall", "open", "reserve", "cut", "steer").contains(word.text)) {
                throw new Wrong(1, word.at);
            }
            tooMany(commands.size() >= 40, word);
            commands.add(command(word.text));
            expect(";");
        }
        return commands;
    }

    private Object[] command(String word) {
        switch (word) {
            case "tick":
                return new Object[] {"tick", number(1, 200)};
            case "fall":
                return new Object[] {"fallTo", number(0, 30000)};
            case "open":
                return new Object[] {"open", number(0, now.layers.size() - 1)};
            case "reserve":
                return new Object[] {"openReserve", 0};
            case "cut":
                return new Object[] {"cut", number(0, now.chutes().size() - 1)};
            default:
                return new Object[] {"steer", signed(9)};
        }
    }
}
