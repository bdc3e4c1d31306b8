import java.util.NoSuchElementException;

/**
 * A falling capsule that asks for brakes and gets them by layers of a parachute.
 *
 * <p>Every array and object is made with the capsule and used again by all calls, so that no call
 * makes anything new.
 */
public final class LayeredChute {
    public static final int NONE = -1;

    private static final int MOST_HEIGHT = 30000;
    private static final int MOST_SPEED = 400;
    private static final int MOST_SLIP = 9;
    private static final int MOST_TICK = 200;
    private static final int FORETOLD_SECONDS = 3000;
    private static final int ACCOUNTS = 10;
    private static final int SLOTS = 2;

    private static final int HAS_LANDED = 1;
    private static final int IS_LOW_ALREADY = 2;
    private static final int IS_NOT_PACKED = 3;
    private static final int IS_TOO_HIGH = 4;
    private static final int IS_TOO_FAST = 5;
    private static final int HAS_TOO_FEW_FAILED = 6;
    private static final int LAYER_COMES_FIRST = 7;
    private static final int NOTHING_OPEN = 8;
    private static final int TARGETS_ARE_FULL = 9;

    private final Reader reader = new Reader();
    private final SetupReader setup = new SetupReader();
    private final Script script = new Script();
    private final World world = new World();
    private final World future = new World();
    private final History history = new History();
    private final World[] saved = new World[SLOTS];
    private final boolean[] isSaved = new boolean[SLOTS];
    private final int[] accounts = new int[ACCOUNTS];
    private final Slate slate = new Slate();

    public LayeredChute() {
        for (int slot = 0; slot < SLOTS; slot++) {
            saved[slot] = new World();
        }
        world.begin(3000, 100, 10);
    }

    // ---- texts

    public int append(int a, int b, int c, int d, int e) throws IllegalStateException {
        int more = Reader.bytesIn(a) + Reader.bytesIn(b) + Reader.bytesIn(c) + Reader.bytesIn(d)
                + Reader.bytesIn(e);
        if (more > reader.room()) {
            throw new IllegalStateException("the text would be longer than 600 bytes");
        }
        reader.addBytesOf(a);
        reader.addBytesOf(b);
        reader.addBytesOf(c);
        reader.addBytesOf(d);
        reader.addBytesOf(e);
        return reader.length;
    }

    public int load() {
        boolean isRight = setup.readSetup(reader);
        reader.emptyText();
        if (!isRight) {
            return NONE;
        }
        world.copyFrom(setup.draft);
        history.forget();
        return world.chuteCount();
    }

    public int play() {
        boolean isRight = script.readCommands(reader, world.layerCount, world.chuteCount());
        reader.emptyText();
        if (!isRight) {
            return NONE;
        }
        int done = 0;
        boolean isRefused = false;
        while (done < script.count && !isRefused) {
            int argument = script.arguments[done];
            int answer;
            switch (script.kinds[done]) {
                case Script.TICK:
                    answer = tick(argument);
                    break;
                case Script.FALL:
                    answer = fallTo(argument);
                    break;
                case Script.OPEN:
                    answer = open(argument);
                    break;
                case Script.RESERVE:
                    answer = openReserve();
                    break;
                case Script.CUT:
                    answer = cut(argument);
                    break;
                default:
                    answer = steer(argument);
                    break;
            }
            isRefused = answer < 0;
            if (!isRefused) {
                done++;
            }
        }
        return done;
    }

    public int errorCode() {
        return reader.code;
    }

    public int errorPosition() {
        return reader.codePlace;
    }

    // ---- what there is

    public int capsule(int what) throws IllegalArgumentException {
        switch (what) {
            case 0:
                return world.height;
            case 1:
                return world.speed;
            case 2:
                return world.x;
            case 3:
                return world.mass;
            case 4:
                return world.heat;
            case 5:
                return world.slip;
            case 6:
                return world.time;
            case 7:
                return world.air();
            case 8:
                return world.landingResult();
            default:
                throw new IllegalArgumentException("what is not 0 to 8");
        }
    }

    public int size(int what) throws IllegalArgumentException {
        if (what < 0 || what > 15) {
            throw new IllegalArgumentException("what is not 0 to 15");
        }
        switch (what) {
            case 0:
                return world.layerCount;
            case 1:
                return world.hasReserve ? 1 : 0;
            case 2:
                return world.targets.count;
            case 3:
                return world.winds.count;
            case 4:
                return world.spots.count;
            case 5:
                return world.cool;
            case 6:
                return world.openChutes();
            case 7:
                return world.failedLayers();
            case 8:
                return world.events.count;
            case 9:
                return history.count;
            case 14:
                return world.fallen;
            case 15:
                return world.gained;
            default:
                return world.countLines(what);
        }
    }

    public int chute(int chute, int what)
            throws IndexOutOfBoundsException, IllegalArgumentException {
        if (!world.hasChute(chute)) {
            throw new IndexOutOfBoundsException("there is no such chute");
        }
        Chute told = world.chuteAt(chute);
        switch (what) {
            case 0:
                return told.area;
            case 1:
                return told.lines;
            case 2:
                return told.strength;
            case 3:
                return told.ceiling;
            case 4:
                return told.limit;
            case 5:
                return told.state;
            case 6:
                return told.state == Chute.CUT ? 0 : told.linesThere();
            case 7:
                return told.isJammed ? 1 : 0;
            default:
                throw new IllegalArgumentException("what is not 0 to 7");
        }
    }

    public int line(int chute, int line) throws IndexOutOfBoundsException {
        if (!world.hasChute(chute)) {
            throw new IndexOutOfBoundsException("there is no such chute");
        }
        Chute told = world.chuteAt(chute);
        if (line < 0 || line >= told.lines) {
            throw new IndexOutOfBoundsException("there is no such line");
        }
        return line < told.torn ? NONE : told.strengthOf(line);
    }

    public int targetAt(int height) throws IllegalArgumentException {
        if (height < 0 || height > MOST_HEIGHT) {
            throw new IllegalArgumentException("height is not 0 to 30000");
        }
        return world.targets.valueAtOrAbove(height, NONE);
    }

    public int windAt(int height) throws IllegalArgumentException {
        if (height < 0 || height > MOST_HEIGHT) {
            throw new IllegalArgumentException("height is not 0 to 30000");
        }
        return world.winds.valueAtOrBelow(height, 0);
    }

    public int spot(int spot, int what)
            throws IndexOutOfBoundsException, IllegalArgumentException {
        if (!world.spots.has(spot)) {
            throw new IndexOutOfBoundsException("there is no such spot");
        }
        switch (what) {
            case 0:
                return world.spots.firsts[spot];
            case 1:
                return world.spots.lasts[spot];
            case 2:
                return world.spots.safes[spot];
            default:
                throw new IllegalArgumentException("what is not 0 to 2");
        }
    }

    public int event(int index, int what)
            throws NoSuchElementException, IllegalArgumentException {
        if (index < 0 || index >= world.events.count) {
            throw new NoSuchElementException("there is no such event");
        }
        if (what < 0 || what >= EventLog.PARTS) {
            throw new IllegalArgumentException("what is not 0 to 3");
        }
        return world.events.partOf(index, what);
    }

    public int account(int what) throws IllegalArgumentException {
        if (what < 0 || what >= ACCOUNTS) {
            throw new IllegalArgumentException("what is not 0 to 9");
        }
        return accounts[what];
    }

    public boolean asks() {
        return world.asksForBrakes();
    }

    public int why(int layer) throws IndexOutOfBoundsException {
        if (!world.hasLayer(layer)) {
            throw new IndexOutOfBoundsException("there is no such layer");
        }
        return world.whyLayer(layer);
    }

    public int whyReserve() {
        return world.whyOfReserve();
    }

    public int loadOn(int chute) throws IndexOutOfBoundsException {
        if (!world.hasChute(chute)) {
            throw new IndexOutOfBoundsException("there is no such chute");
        }
        Chute told = world.chuteAt(chute);
        if (told.state != Chute.OPEN) {
            return 0;
        }
        long pull = told.pull(world.air(), world.speed);
        return (int) told.loadOfOneLine(pull, world.slip, told.torn);
    }

    public int wouldTear(int chute) throws IndexOutOfBoundsException {
        if (!world.hasChute(chute)) {
            throw new IndexOutOfBoundsException("there is no such chute");
        }
        Chute told = world.chuteAt(chute);
        if (told.state != Chute.OPEN) {
            return 0;
        }
        long pull = told.pull(world.air(), world.speed);
        return told.linesThatTear(pull, world.slip, world.heat);
    }

    public float share() {
        int all = world.countLines(World.ALL_LINES);
        if (all == 0) {
            return 0.0f;
        }
        return (float) world.countLines(World.LINES_THERE) / (float) all;
    }

    public double meanSpeed() {
        if (world.time == 0) {
            return 0.0;
        }
        return (double) world.fallen / (double) world.time;
    }

    // ---- foretelling

    public int landIn() {
        int seconds = foretellLanding();
        return future.hasLanded() ? seconds : NONE;
    }

    public int landAt() throws NoSuchElementException {
        foretellLanding();
        if (!future.hasLanded()) {
            throw new NoSuchElementException("landing takes more than 3000 seconds");
        }
        return future.x;
    }

    public int landSpeed() {
        foretellLanding();
        return future.hasLanded() ? future.speed : NONE;
    }

    public int landResult() {
        foretellLanding();
        return future.hasLanded() ? future.landingResult() : NONE;
    }

    public int failsIn(int chute) throws IndexOutOfBoundsException {
        if (!world.hasChute(chute)) {
            throw new IndexOutOfBoundsException("there is no such chute");
        }
        future.copyFrom(world);
        Chute watched = future.chuteAt(chute);
        int seconds = 0;
        while (!watched.hasFailed() && !future.hasLanded() && seconds < FORETOLD_SECONDS) {
            future.passSecond();
            seconds++;
        }
        return watched.hasFailed() ? seconds : NONE;
    }

    public int reserveIn() {
        if (!world.hasReserve) {
            return NONE;
        }
        future.copyFrom(world);
        Chute watched = future.reserve;
        int seconds = 0;
        while (watched.state != Chute.OPEN && !future.hasLanded() && seconds < FORETOLD_SECONDS) {
            future.passSecond();
            seconds++;
        }
        return watched.state == Chute.OPEN ? seconds : NONE;
    }

    public int hottest() {
        future.copyFrom(world);
        int greatest = future.heat;
        for (int seconds = 0; seconds < FORETOLD_SECONDS && !future.hasLanded(); seconds++) {
            future.passSecond();
            greatest = Math.max(greatest, future.heat);
        }
        return greatest;
    }

    public int bestSlip(int spot) throws IndexOutOfBoundsException {
        if (!world.spots.has(spot)) {
            throw new IndexOutOfBoundsException("there is no such spot");
        }
        int best = NONE;
        int leastDistance = 0;
        // The slips come in the order in which they are preferred: 0, -1, 1, -2, 2, ...
        for (int rank = 0; rank <= 2 * MOST_SLIP; rank++) {
            int slip = rank % 2 == 0 ? rank / 2 : -(rank + 1) / 2;
            foretellLandingWithSlip(slip);
            int distance = world.spots.distanceTo(spot, future.x);
            if (future.hasLanded() && (best == NONE || distance < leastDistance)) {
                best = slip + MOST_SLIP;
                leastDistance = distance;
            }
        }
        return best;
    }

    public int reachable() {
        int spots = 0;
        for (int slip = -MOST_SLIP; slip <= MOST_SLIP; slip++) {
            foretellLandingWithSlip(slip);
            if (future.hasLanded()) {
                spots |= world.spots.allWith(future.x);
            }
        }
        return spots;
    }

    // ---- acts: a number as told, or minus the reason

    public int tick(int seconds) throws IllegalArgumentException {
        if (seconds < 1 || seconds > MOST_TICK) {
            throw new IllegalArgumentException("seconds is not 1 to 200");
        }
        if (world.hasLanded()) {
            return refuse(HAS_LANDED);
        }
        beginAct();
        return world.passUntil(0, seconds);
    }

    public int fallTo(int height) throws IllegalArgumentException {
        if (height < 0 || height > MOST_HEIGHT) {
            throw new IllegalArgumentException("height is not 0 to 30000");
        }
        if (world.hasLanded()) {
            return refuse(HAS_LANDED);
        }
        if (world.height <= height) {
            return refuse(IS_LOW_ALREADY);
        }
        beginAct();
        return world.passUntil(height, FORETOLD_SECONDS);
    }

    public int open(int layer) throws IndexOutOfBoundsException {
        if (!world.hasLayer(layer)) {
            throw new IndexOutOfBoundsException("there is no such layer");
        }
        if (world.hasLanded()) {
            return refuse(HAS_LANDED);
        }
        Chute opening = world.chuteAt(layer);
        if (opening.state != Chute.PACKED) {
            return refuse(IS_NOT_PACKED);
        }
        if (world.height > opening.ceiling) {
            return refuse(IS_TOO_HIGH);
        }
        if (world.speed > opening.limit) {
            return refuse(IS_TOO_FAST);
        }
        beginAct();
        world.openLayer(layer);
        return opening.state;
    }

    public int openReserve() {
        if (world.hasLanded()) {
            return refuse(HAS_LANDED);
        }
        if (!world.hasReserve || world.reserve.state != Chute.PACKED) {
            return refuse(IS_NOT_PACKED);
        }
        if (world.height > world.reserve.ceiling) {
            return refuse(IS_TOO_HIGH);
        }
        int failed = world.failedLayers();
        if (failed < world.reserve.limit) {
            return refuse(HAS_TOO_FEW_FAILED);
        }
        if (world.firstLayerThatMayOpen() != NONE) {
            return refuse(LAYER_COMES_FIRST);
        }
        beginAct();
        world.openTheReserve(failed);
        return failed;
    }

    public int cut(int chute) throws IndexOutOfBoundsException {
        if (!world.hasChute(chute)) {
            throw new IndexOutOfBoundsException("there is no such chute");
        }
        if (world.hasLanded()) {
            return refuse(HAS_LANDED);
        }
        if (world.chuteAt(chute).state != Chute.OPEN) {
            return refuse(NOTHING_OPEN);
        }
        beginAct();
        world.cutAway(chute);
        return world.openChutes();
    }

    public int steer(int slip) throws IllegalArgumentException {
        if (slip < -MOST_SLIP || slip > MOST_SLIP) {
            throw new IllegalArgumentException("slip is not -9 to 9");
        }
        if (world.hasLanded()) {
            return refuse(HAS_LANDED);
        }
        if (world.openChutes() == 0) {
            return refuse(NOTHING_OPEN);
        }
        beginAct();
        int before = world.slip;
        world.slip = slip;
        return before + MOST_SLIP;
    }

    public int setTarget(int height, int speed) throws IllegalArgumentException {
        if (height < 1 || height > MOST_HEIGHT) {
            throw new IllegalArgumentException("height is not 1 to 30000");
        }
        if (speed < 1 || speed > MOST_SPEED) {
            throw new IllegalArgumentException("speed is not 1 to 400");
        }
        if (!world.targets.hasPlaceFor(height)) {
            return refuse(TARGETS_ARE_FULL);
        }
        beginAct();
        world.targets.put(height, speed);
        return world.targets.count;
    }

    public int jam(int layer, boolean isJammed) throws IndexOutOfBoundsException {
        if (!world.hasLayer(layer)) {
            throw new IndexOutOfBoundsException("there is no such layer");
        }
        Chute changed = world.chuteAt(layer);
        if (changed.state != Chute.PACKED) {
            return refuse(IS_NOT_PACKED);
        }
        beginAct();
        changed.isJammed = isJammed;
        return world.packedJammedLayers();
    }

    // ---- output

    public int write() {
        slate.wipe();
        int chutes = world.chuteCount();
        for (int chute = 0; chute < chutes; chute++) {
            if (chute > 0) {
                slate.put(' ');
            }
            if (chute == world.layerCount) {
                slate.put('R');
            }
            Chute told = world.chuteAt(chute);
            slate.put(told.letter());
            if (told.state == Chute.PACKED || told.state == Chute.OPEN) {
                slate.putNumber(told.linesThere());
            }
        }
        return slate.length;
    }

    public int output(int index) throws IndexOutOfBoundsException {
        if (index < 0 || index >= slate.length) {
            throw new IndexOutOfBoundsException("there is no such byte");
        }
        return slate.bytes[index];
    }

    // ---- undo, saved states

    public int undo() throws IllegalStateException {
        if (history.count == 0) {
            throw new IllegalStateException("there is no act to undo");
        }
        history.bringBack(world);
        return history.count;
    }

    public int save(int slot) throws IndexOutOfBoundsException {
        if (slot < 0 || slot >= SLOTS) {
            throw new IndexOutOfBoundsException("slot is neither 0 nor 1");
        }
        saved[slot].copyFrom(world);
        isSaved[slot] = true;
        return world.time;
    }

    public int restore(int slot) throws IndexOutOfBoundsException, IllegalStateException {
        if (slot < 0 || slot >= SLOTS) {
            throw new IndexOutOfBoundsException("slot is neither 0 nor 1");
        }
        if (!isSaved[slot]) {
            throw new IllegalStateException("nothing is saved there");
        }
        world.copyFrom(saved[slot]);
        history.forget();
        return world.time;
    }

    // ---- what several calls share

    private int refuse(int reason) {
        accounts[reason]++;
        return -reason;
    }

    private void beginAct() {
        accounts[0]++;
        history.remember(world);
    }

    private int foretellLanding() {
        future.copyFrom(world);
        return future.passUntil(0, FORETOLD_SECONDS);
    }

    private void foretellLandingWithSlip(int slip) {
        future.copyFrom(world);
        future.slip = slip;
        future.passUntil(0, FORETOLD_SECONDS);
    }

    /** Layers and the reserve differ only in their limit: the MOST of a layer, the FAILS of the reserve. */
    private static final class Chute {
        static final int PACKED = 0;
        static final int OPEN = 1;
        static final int TORN = 2;
        static final int JAMMED = 3;
        static final int CUT = 4;

        int area;
        int lines;
        int strength;
        int ceiling;
        int limit;
        int state;
        boolean isJammed;
        /** A line with a higher number is never weaker: the torn lines are always the first ones. */
        int torn;

        void pack(int newArea, int newLines, int newStrength, int newCeiling, int newLimit) {
            area = newArea;
            lines = newLines;
            strength = newStrength;
            ceiling = newCeiling;
            limit = newLimit;
            state = PACKED;
            isJammed = false;
            torn = 0;
        }

        void copyFrom(Chute other) {
            area = other.area;
            lines = other.lines;
            strength = other.strength;
            ceiling = other.ceiling;
            limit = other.limit;
            state = other.state;
            isJammed = other.isJammed;
            torn = other.torn;
        }

        int linesThere() {
            return lines - torn;
        }

        int strengthOf(int number) {
            return strength + 3 * number;
        }

        boolean hasFailed() {
            return state == TORN || state == JAMMED;
        }

        boolean isPackedAndBelowCeiling(int height) {
            return state == PACKED && height <= ceiling;
        }

        long pull(int air, int speed) {
            return (long) area * air * speed * speed / 10000;
        }

        /** How many lines are gone is told, as a tear is reckoned to its end before it is done. */
        long loadOfOneLine(long pull, int slip, int gone) {
            int sharing = lines - gone;
            if (sharing < 1) {
                return 0;
            }
            int slipped = slip < 0 ? -slip : slip;
            long all = pull * (100 + 5 * slipped) / 100;
            return (all + sharing - 1) / sharing;
        }

        int linesThatTear(long pull, int slip, int heat) {
            int gone = torn;
            int before = NONE;
            while (gone > before && gone < lines) {
                before = gone;
                long load = loadOfOneLine(pull, slip, gone);
                while (gone < lines && strengthOf(gone) * (1000 - heat) / 1000 < load) {
                    gone++;
                }
            }
            return gone - torn;
        }

        char letter() {
            switch (state) {
                case PACKED:
                    return 'P';
                case OPEN:
                    return 'O';
                case TORN:
                    return 'T';
                case JAMMED:
                    return 'J';
                default:
                    return 'C';
            }
        }
    }

    /** Targets and winds are kept alike: a value by a height, no two of the same height. */
    private static final class HeightTable {
        static final int MOST = 8;

        final int[] heights = new int[MOST];
        final int[] values = new int[MOST];
        int count;

        void copyFrom(HeightTable other) {
            System.arraycopy(other.heights, 0, heights, 0, MOST);
            System.arraycopy(other.values, 0, values, 0, MOST);
            count = other.count;
        }

        int placeOf(int height) {
            for (int place = 0; place < count; place++) {
                if (heights[place] == height) {
                    return place;
                }
            }
            return NONE;
        }

        boolean hasPlaceFor(int height) {
            return count < MOST || placeOf(height) != NONE;
        }

        void put(int height, int value) {
            int place = placeOf(height);
            if (place == NONE && count < MOST) {
                place = count;
                count++;
            }
            if (place != NONE) {
                heights[place] = height;
                values[place] = value;
            }
        }

        int valueAtOrAbove(int height, int otherwise) {
            int best = NONE;
            for (int place = 0; place < count; place++) {
                if (heights[place] >= height && (best == NONE || heights[place] < heights[best])) {
                    best = place;
                }
            }
            return best == NONE ? otherwise : values[best];
        }

        int valueAtOrBelow(int height, int otherwise) {
            int best = NONE;
            for (int place = 0; place < count; place++) {
                if (heights[place] <= height && (best == NONE || heights[place] > heights[best])) {
                    best = place;
                }
            }
            return best == NONE ? otherwise : values[best];
        }
    }

    private static final class Spots {
        static final int MOST = 8;

        final int[] firsts = new int[MOST];
        final int[] lasts = new int[MOST];
        final int[] safes = new int[MOST];
        int count;

        void copyFrom(Spots other) {
            System.arraycopy(other.firsts, 0, firsts, 0, MOST);
            System.arraycopy(other.lasts, 0, lasts, 0, MOST);
            System.arraycopy(other.safes, 0, safes, 0, MOST);
            count = other.count;
        }

        boolean has(int number) {
            return number >= 0 && number < count;
        }

        void add(int first, int last, int safe) {
            if (count < MOST) {
                firsts[count] = first;
                lasts[count] = last;
                safes[count] = safe;
                count++;
            }
        }

        int distanceTo(int number, int x) {
            if (x < firsts[number]) {
                return firsts[number] - x;
            }
            return x > lasts[number] ? x - lasts[number] : 0;
        }

        int firstWith(int x) {
            for (int number = 0; number < count; number++) {
                if (distanceTo(number, x) == 0) {
                    return number;
                }
            }
            return NONE;
        }

        int allWith(int x) {
            int set = 0;
            for (int number = 0; number < count; number++) {
                if (distanceTo(number, x) == 0) {
                    set |= 1 << number;
                }
            }
            return set;
        }
    }

    /** A ring, so that an event that is one too many moves none of the others. */
    private static final class EventLog {
        static final int LAYER_OPENED = 0;
        static final int LINES_TORE = 1;
        static final int CHUTE_TORE = 2;
        static final int LAYER_JAMMED = 3;
        static final int RESERVE_OPENED = 4;
        static final int CHUTE_CUT = 5;
        static final int LANDED = 6;

        static final int MOST = 30;
        static final int PARTS = 4;

        final int[] parts = new int[MOST * PARTS];
        int earliest;
        int count;

        void copyFrom(EventLog other) {
            System.arraycopy(other.parts, 0, parts, 0, MOST * PARTS);
            earliest = other.earliest;
            count = other.count;
        }

        void forget() {
            earliest = 0;
            count = 0;
        }

        void keep(int time, int kind, int chute, int number) {
            int at = (earliest + count) % MOST * PARTS;
            parts[at] = time;
            parts[at + 1] = kind;
            parts[at + 2] = chute;
            parts[at + 3] = number;
            if (count < MOST) {
                count++;
            } else {
                earliest = (earliest + 1) % MOST;
            }
        }

        int partOf(int index, int what) {
            return parts[(earliest + index) % MOST * PARTS + what];
        }
    }

    /** All that undo brings back, in one object: undo, saved states and foretelling are copies of it. */
    private static final class World {
        static final int MOST_LAYERS = 8;
        static final int MOST_HEAT = 999;
        static final int COOL_UNTOLD = 20;

        // These are the numbers that size() has for them.
        static final int ALL_LINES = 10;
        static final int LINES_THERE = 11;
        static final int TORN_LINES = 12;

        int height;
        int speed;
        int x;
        int mass;
        int heat;
        int slip;
        int time;
        int cool;
        int fallen;
        int gained;
        int layerCount;
        boolean hasReserve;
        final Chute[] layers = new Chute[MOST_LAYERS];
        final Chute reserve = new Chute();
        final HeightTable targets = new HeightTable();
        final HeightTable winds = new HeightTable();
        final Spots spots = new Spots();
        final EventLog events = new EventLog();

        World() {
            for (int layer = 0; layer < MOST_LAYERS; layer++) {
                layers[layer] = new Chute();
            }
        }

        void begin(int newHeight, int newSpeed, int newMass) {
            height = newHeight;
            speed = newSpeed;
            mass = newMass;
            x = 0;
            heat = 0;
            slip = 0;
            time = 0;
            cool = COOL_UNTOLD;
            fallen = 0;
            gained = 0;
            layerCount = 0;
            hasReserve = false;
            targets.count = 0;
            winds.count = 0;
            spots.count = 0;
            events.forget();
        }

        void copyFrom(World other) {
            height = other.height;
            speed = other.speed;
            x = other.x;
            mass = other.mass;
            heat = other.heat;
            slip = other.slip;
            time = other.time;
            cool = other.cool;
            fallen = other.fallen;
            gained = other.gained;
            layerCount = other.layerCount;
            hasReserve = other.hasReserve;
            for (int layer = 0; layer < layerCount; layer++) {
                layers[layer].copyFrom(other.layers[layer]);
            }
            reserve.copyFrom(other.reserve);
            targets.copyFrom(other.targets);
            winds.copyFrom(other.winds);
            spots.copyFrom(other.spots);
            events.copyFrom(other.events);
        }

        int chuteCount() {
            return hasReserve ? layerCount + 1 : layerCount;
        }

        boolean hasLayer(int number) {
            return number >= 0 && number < layerCount;
        }

        boolean hasChute(int number) {
            return number >= 0 && number < chuteCount();
        }

        Chute chuteAt(int number) {
            return hasLayer(number) ? layers[number] : reserve;
        }

        boolean hasLanded() {
            return height == 0;
        }

        int air() {
            return 100 - height / 400;
        }

        boolean asksForBrakes() {
            int target = targets.valueAtOrAbove(height, NONE);
            return target != NONE && speed > target;
        }

        int openChutes() {
            int count = 0;
            int chutes = chuteCount();
            for (int chute = 0; chute < chutes; chute++) {
                if (chuteAt(chute).state == Chute.OPEN) {
                    count++;
                }
            }
            return count;
        }

        int failedLayers() {
            int count = 0;
            for (int layer = 0; layer < layerCount; layer++) {
                if (layers[layer].hasFailed()) {
                    count++;
                }
            }
            return count;
        }

        int packedJammedLayers() {
            int count = 0;
            for (int layer = 0; layer < layerCount; layer++) {
                if (layers[layer].state == Chute.PACKED && layers[layer].isJammed) {
                    count++;
                }
            }
            return count;
        }

        int countLines(int which) {
            int all = 0;
            int torn = 0;
            int cutAway = 0;
            int chutes = chuteCount();
            for (int number = 0; number < chutes; number++) {
                Chute chute = chuteAt(number);
                all += chute.lines;
                torn += chute.torn;
                if (chute.state == Chute.CUT) {
                    cutAway += chute.linesThere();
                }
            }
            switch (which) {
                case ALL_LINES:
                    return all;
                case LINES_THERE:
                    return all - torn - cutAway;
                case TORN_LINES:
                    return torn;
                default:
                    return cutAway;
            }
        }

        int firstLayerThatMayOpen() {
            for (int layer = 0; layer < layerCount; layer++) {
                if (layers[layer].isPackedAndBelowCeiling(height) && speed <= layers[layer].limit) {
                    return layer;
                }
            }
            return NONE;
        }

        int whyLayer(int layer) {
            Chute chute = layers[layer];
            switch (chute.state) {
                case Chute.OPEN:
                    return 0;
                case Chute.TORN:
                    return 1;
                case Chute.JAMMED:
                    return 2;
                case Chute.CUT:
                    return 3;
                default:
                    break;
            }
            if (height > chute.ceiling) {
                return 4;
            }
            if (speed > chute.limit) {
                return 5;
            }
            if (!asksForBrakes()) {
                return 6;
            }
            return firstLayerThatMayOpen() < layer ? 7 : 8;
        }

        int whyOfReserve() {
            if (!hasReserve) {
                return 1;
            }
            if (reserve.state == Chute.OPEN) {
                return 0;
            }
            if (reserve.state != Chute.PACKED) {
                return 2;
            }
            if (height > reserve.ceiling) {
                return 3;
            }
            if (failedLayers() < reserve.limit) {
                return 4;
            }
            if (firstLayerThatMayOpen() != NONE) {
                return 5;
            }
            return asksForBrakes() ? 7 : 6;
        }

        void openLayer(int layer) {
            Chute chute = layers[layer];
            if (chute.isJammed) {
                chute.state = Chute.JAMMED;
                events.keep(time, EventLog.LAYER_JAMMED, layer, speed);
            } else {
                chute.state = Chute.OPEN;
                events.keep(time, EventLog.LAYER_OPENED, layer, speed);
            }
        }

        void openTheReserve(int failed) {
            reserve.state = Chute.OPEN;
            events.keep(time, EventLog.RESERVE_OPENED, layerCount, failed);
        }

        void cutAway(int number) {
            Chute chute = chuteAt(number);
            chute.state = Chute.CUT;
            events.keep(time, EventLog.CHUTE_CUT, number, chute.linesThere());
        }

        int passUntil(int goalHeight, int mostSeconds) {
            int seconds = 0;
            while (height > goalHeight && seconds < mostSeconds) {
                passSecond();
                seconds++;
            }
            return seconds;
        }

        void passSecond() {
            int air = air();
            if (asksForBrakes()) {
                openWhatMay();
            }
            long brake = tearAndBrake(air);
            long slowing = mass > 0 ? brake / mass : 0;
            int slowed = (int) (speed + 10 - slowing);
            speed = Math.max(Math.max(slowed, speed / 2), 1);
            int gain = (int) ((long) speed * speed * air / 100000);
            gained += gain;
            heat = Math.min(Math.max(heat + gain - cool, 0), MOST_HEAT);
            if (openChutes() > 0) {
                x += winds.valueAtOrBelow(height, 0) + slip;
            }
            int drop = Math.min(speed, height);
            height -= drop;
            fallen += drop;
            if (hasLanded()) {
                events.keep(time, EventLog.LANDED, NONE, landingResult());
            }
            time++;
        }

        private void openWhatMay() {
            int layer = firstLayerThatMayOpen();
            int failed = failedLayers();
            if (layer != NONE) {
                openLayer(layer);
            } else if (hasReserve && reserve.isPackedAndBelowCeiling(height) && failed >= reserve.limit) {
                openTheReserve(failed);
            }
        }

        private long tearAndBrake(int air) {
            long brake = 2L * air * speed * speed / 10000;
            int chutes = chuteCount();
            for (int number = 0; number < chutes; number++) {
                Chute chute = chuteAt(number);
                if (chute.state == Chute.OPEN) {
                    long pull = chute.pull(air, speed);
                    int tearing = chute.linesThatTear(pull, slip, heat);
                    if (tearing > 0) {
                        tear(chute, number, tearing);
                    }
                    brake += chute.state == Chute.OPEN ? pull : 0;
                }
            }
            return brake;
        }

        private void tear(Chute chute, int number, int tearing) {
            chute.torn += tearing;
            events.keep(time, EventLog.LINES_TORE, number, tearing);
            if (chute.linesThere() == 0) {
                chute.state = Chute.TORN;
                events.keep(time, EventLog.CHUTE_TORE, number, chute.area);
            }
        }

        int landingResult() {
            if (!hasLanded()) {
                return 0;
            }
            int spot = spots.firstWith(x);
            if (spot == NONE) {
                return 3;
            }
            return speed <= spots.safes[spot] ? 1 : 2;
        }
    }

    /** A ring of the states ahead of acts, so that an act that is one too many moves none of the others. */
    private static final class History {
        static final int MOST = 8;

        final World[] states = new World[MOST];
        int next;
        int count;

        History() {
            for (int place = 0; place < MOST; place++) {
                states[place] = new World();
            }
        }

        void forget() {
            count = 0;
        }

        void remember(World world) {
            states[next].copyFrom(world);
            next = (next + 1) % MOST;
            count = Math.min(count + 1, MOST);
        }

        void bringBack(World world) {
            if (count > 0) {
                next = (next + MOST - 1) % MOST;
                count--;
                world.copyFrom(states[next]);
            }
        }
    }

    /**
     * The text buffer, read token by token. After the first wrong token nothing is taken any more,
     * so that a whole rule of the grammar can be read without a test behind each token.
     */
    private static final class Reader {
        static final int MOST_BYTES = 600;
        static final int MOST_VALUE = 1000000;

        static final int END = 0;
        static final int WORD = 1;
        static final int NUMBER = 2;
        static final int MINUS = 3;
        static final int SEMICOLON = 4;
        static final int BLANK = 5;
        static final int FOREIGN = 6;

        static final int NOT_ALLOWED = 1;
        static final int OUT_OF_RANGE = 2;
        static final int TOLD_ALREADY = 3;
        static final int TOO_MANY = 4;

        final int[] bytes = new int[MOST_BYTES];
        /** Told when bytes are appended, so that the calls that read tokens go less deep. */
        final int[] kinds = new int[MOST_BYTES];
        int length;
        int code;
        int codePlace = NONE;
        private int kind;
        private int start;
        private int end;
        private int value;
        private int takenStart;

        static int bytesIn(int packed) {
            int count = 0;
            for (int shift = 24; shift >= 0; shift -= 8) {
                if ((packed >>> shift & 255) != 0) {
                    count++;
                }
            }
            return count;
        }

        int room() {
            return MOST_BYTES - length;
        }

        void addBytesOf(int packed) {
            for (int shift = 24; shift >= 0; shift -= 8) {
                int next = packed >>> shift & 255;
                if (next != 0 && length < MOST_BYTES) {
                    bytes[length] = next;
                    kinds[length] = kindOf(next);
                    length++;
                }
            }
        }

        private static int kindOf(int sign) {
            if (sign >= 'a' && sign <= 'z') {
                return WORD;
            }
            if (sign >= '0' && sign <= '9') {
                return NUMBER;
            }
            switch (sign) {
                case '-':
                    return MINUS;
                case ';':
                    return SEMICOLON;
                case ' ':
                case '\n':
                    return BLANK;
                default:
                    return FOREIGN;
            }
        }

        void emptyText() {
            length = 0;
        }

        void begin() {
            code = 0;
            codePlace = NONE;
            end = 0;
            advance();
        }

        boolean hasFailed() {
            return code != 0;
        }

        boolean hasMore() {
            return !hasFailed() && kind != END;
        }

        boolean skipWord(String word) {
            if (hasFailed() || !isAt(word)) {
                return false;
            }
            advance();
            return true;
        }

        void takeWord(String word) {
            if (!isAt(word)) {
                failAt(start, NOT_ALLOWED);
            } else if (!hasFailed()) {
                advance();
            }
        }

        void takeSemicolon() {
            if (kind != SEMICOLON) {
                failAt(start, NOT_ALLOWED);
            } else if (!hasFailed()) {
                advance();
            }
        }

        int takeNumber(int least, int most) {
            if (kind != NUMBER) {
                failAt(start, NOT_ALLOWED);
            } else if (value < least || value > most) {
                failAt(start, OUT_OF_RANGE);
            }
            if (hasFailed()) {
                return 0;
            }
            int taken = value;
            advance();
            return taken;
        }

        int takeSigned(int most) {
            boolean isNegative = kind == MINUS && !hasFailed();
            if (isNegative) {
                advance();
            }
            int number = takeNumber(0, most);
            return isNegative ? -number : number;
        }

        void failHere(int newCode) {
            failAt(start, newCode);
        }

        /** That there is one too many, or one already, shows only when the token has been taken. */
        void failTaken(int newCode) {
            failAt(takenStart, newCode);
        }

        private void failAt(int place, int newCode) {
            if (code == 0) {
                code = newCode;
                codePlace = place;
            }
        }

        private boolean isAt(String word) {
            if (kind != WORD || end - start != word.length()) {
                return false;
            }
            for (int i = 0; i < word.length(); i++) {
                if (bytes[start + i] != word.charAt(i)) {
                    return false;
                }
            }
            return true;
        }

        private void advance() {
            takenStart = start;
            start = end;
            while (start < length && kinds[start] == BLANK) {
                start++;
            }
            end = start;
            if (start >= length) {
                kind = END;
                return;
            }
            kind = kinds[start];
            end++;
            if (kind == WORD) {
                while (end < length && kinds[end] == WORD) {
                    end++;
                }
            } else if (kind == NUMBER) {
                value = bytes[start] - '0';
                while (end < length && kinds[end] == NUMBER) {
                    // Any number of digits is allowed: the value stays where no range reaches.
                    if (value < MOST_VALUE) {
                        value = value * 10 + bytes[end] - '0';
                    }
                    end++;
                }
            }
        }
    }

    /** Reads a setup into a draft, so that a wrong one changes nothing. */
    private static final class SetupReader {
        static final int MOST_X = 9999;
        static final int MOST_WIND = 40;

        final World draft = new World();

        boolean readSetup(Reader reader) {
            reader.begin();
            reader.takeWord("capsule");
            int height = reader.takeNumber(1, MOST_HEIGHT);
            int speed = reader.takeNumber(0, MOST_SPEED);
            int mass = reader.takeNumber(1, 99);
            reader.takeSemicolon();
            if (reader.hasFailed()) {
                return false;
            }
            draft.begin(height, speed, mass);
            for (int round = 0; round < Reader.MOST_BYTES && reader.hasMore(); round++) {
                readStatement(reader);
                reader.takeSemicolon();
            }
            return !reader.hasFailed();
        }

        private void readStatement(Reader reader) {
            if (reader.skipWord("layer")) {
                readLayer(reader);
            } else if (reader.skipWord("reserve")) {
                readReserve(reader);
            } else if (reader.skipWord("target")) {
                readHeightAndSpeed(reader);
            } else if (reader.skipWord("wind")) {
                readWind(reader);
            } else if (reader.skipWord("spot")) {
                readSpot(reader);
            } else if (reader.skipWord("cool")) {
                draft.cool = reader.takeNumber(0, 99);
            } else {
                reader.failHere(Reader.NOT_ALLOWED);
            }
        }

        private void readLayer(Reader reader) {
            if (draft.layerCount >= World.MOST_LAYERS) {
                reader.failTaken(Reader.TOO_MANY);
                return;
            }
            Chute layer = draft.layers[draft.layerCount];
            readChute(reader, layer, "under", MOST_SPEED);
            layer.isJammed = reader.skipWord("jammed");
            draft.layerCount++;
        }

        private void readReserve(Reader reader) {
            if (draft.hasReserve) {
                reader.failTaken(Reader.TOLD_ALREADY);
                return;
            }
            readChute(reader, draft.reserve, "after", World.MOST_LAYERS);
            draft.hasReserve = true;
        }

        private void readChute(Reader reader, Chute chute, String limitWord, int mostLimit) {
            int area = reader.takeNumber(1, 99);
            int lines = reader.takeNumber(1, 12);
            int strength = reader.takeNumber(1, 9999);
            reader.takeWord("below");
            int ceiling = reader.takeNumber(1, MOST_HEIGHT);
            reader.takeWord(limitWord);
            int limit = reader.takeNumber(1, mostLimit);
            chute.pack(area, lines, strength, ceiling, limit);
        }

        private void readHeightAndSpeed(Reader reader) {
            int height = takeNewHeight(reader, draft.targets, 1);
            int speed = reader.takeNumber(1, MOST_SPEED);
            draft.targets.put(height, speed);
        }

        private void readWind(Reader reader) {
            int height = takeNewHeight(reader, draft.winds, 0);
            int wind = reader.takeSigned(MOST_WIND);
            draft.winds.put(height, wind);
        }

        private int takeNewHeight(Reader reader, HeightTable table, int least) {
            if (table.count >= HeightTable.MOST) {
                reader.failTaken(Reader.TOO_MANY);
            }
            int height = reader.takeNumber(least, MOST_HEIGHT);
            if (table.placeOf(height) != NONE) {
                reader.failTaken(Reader.TOLD_ALREADY);
            }
            return height;
        }

        private void readSpot(Reader reader) {
            if (draft.spots.count >= Spots.MOST) {
                reader.failTaken(Reader.TOO_MANY);
            }
            int first = reader.takeSigned(MOST_X);
            int last = reader.takeSigned(MOST_X);
            if (last < first) {
                reader.failTaken(Reader.TOLD_ALREADY);
            }
            int safe = reader.takeNumber(1, 99);
            draft.spots.add(first, last, safe);
        }
    }

    /** Reads a script as a whole, ahead of the first command's being done. */
    private static final class Script {
        static final int TICK = 0;
        static final int FALL = 1;
        static final int OPEN = 2;
        static final int RESERVE = 3;
        static final int CUT = 4;
        static final int STEER = 5;

        static final int MOST = 40;

        final int[] kinds = new int[MOST];
        final int[] arguments = new int[MOST];
        int count;

        boolean readCommands(Reader reader, int layers, int chutes) {
            count = 0;
            reader.begin();
            for (int round = 0; round < Reader.MOST_BYTES && reader.hasMore(); round++) {
                readCommand(reader, layers, chutes);
            }
            return !reader.hasFailed();
        }

        private void readCommand(Reader reader, int layers, int chutes) {
            int kind = takeKind(reader);
            if (count >= MOST) {
                reader.failTaken(Reader.TOO_MANY);
            }
            int argument = takeArgument(reader, kind, layers, chutes);
            reader.takeSemicolon();
            if (!reader.hasFailed() && count < MOST) {
                kinds[count] = kind;
                arguments[count] = argument;
                count++;
            }
        }

        private int takeKind(Reader reader) {
            if (reader.skipWord("tick")) {
                return TICK;
            }
            if (reader.skipWord("fall")) {
                return FALL;
            }
            if (reader.skipWord("open")) {
                return OPEN;
            }
            if (reader.skipWord("reserve")) {
                return RESERVE;
            }
            if (reader.skipWord("cut")) {
                return CUT;
            }
            if (reader.skipWord("steer")) {
                return STEER;
            }
            reader.failHere(Reader.NOT_ALLOWED);
            return NONE;
        }

        private int takeArgument(Reader reader, int kind, int layers, int chutes) {
            switch (kind) {
                case TICK:
                    return reader.takeNumber(1, MOST_TICK);
                case FALL:
                    return reader.takeNumber(0, MOST_HEIGHT);
                case OPEN:
                    return reader.takeNumber(0, layers - 1);
                case CUT:
                    return reader.takeNumber(0, chutes - 1);
                case STEER:
                    return reader.takeSigned(MOST_SLIP);
                default:
                    return 0;
            }
        }
    }

    private static final class Slate {
        /** No output is as long: nine chutes of at most four bytes, and the spaces between them. */
        static final int MOST_BYTES = 64;

        final int[] bytes = new int[MOST_BYTES];
        int length;

        void wipe() {
            length = 0;
        }

        void put(char sign) {
            if (length < MOST_BYTES) {
                bytes[length] = sign;
                length++;
            }
        }

        void putNumber(int number) {
            if (number >= 10) {
                put((char) ('0' + number / 10 % 10));
            }
            put((char) ('0' + number % 10));
        }
    }
}
