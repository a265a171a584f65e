/**
 * Lights that are let to three premieres of a week: lamps on dimmers on phases, cues and their fades,
 * what trips, what the hire costs. The numbered promises of ../shared/DOC.md say what each call answers.
 *
 * All rows are made with the object and used again, so that no call makes an object.
 */
public final class PhaseLights {
    public static final int NO_SUCH = -1, BAD_VALUE = -2, BAD_TEXT = -3, TOO_MANY = -4, NOT_POSSIBLE = -5, NONE = -6;
    public static final int CAP = 0, LIMIT = 1, HOLD = 2;

    private static final int MOST_TYPES = 6;
    private static final int PREMIERES = 3;
    private static final int MOST_LAMPS = 12;
    private static final int DIMMERS = 12;
    private static final int PHASES = 3;
    private static final int CUES = 8;
    private static final int DAYS = 7;
    private static final int FULL_LEVEL = 100;
    private static final int MOST_CUE_TICKS = 50;
    private static final int MOST_TICKS = 100;
    private static final int PAD_LENGTH = 60;
    private static final int SIGNS_OF_A_LONG = 8;
    private static final int MOST_CHANGES = 6;
    private static final int SLOTS = 2;

    private static final int[] LEAST_SETTING = {500, 1000, 1};
    private static final int[] MOST_SETTING = {6000, 20000, 20};
    private static final int[] FIRST_SETTING = {2400, 7000, 3};

    private final State state = new State();
    private final History history = new History();
    private final State[] slots = new State[SLOTS];
    private int savedSlots;
    private final Orders orders = new Orders();
    private final Pad pad = orders.pad;
    private final Loads loads = new Loads();
    private final Worst worst = new Worst();
    private final Trial trial = new Trial();

    public PhaseLights() {
        for (int slot = 0; slot < slots.length; slot++) {
            slots[slot] = new State();
        }
    }

    // ---- stock, premieres, rigs

    public int set(int setting, int value) {
        if (!isIn(setting, 0, LEAST_SETTING.length - 1)
                || !isIn(value, LEAST_SETTING[setting], MOST_SETTING[setting])) {
            return BAD_VALUE;
        }
        history.push(state);
        int previous = state.settings[setting];
        state.settings[setting] = value;
        return previous;
    }

    public int type(int watts, int stock, int price) {
        if (!isIn(watts, 100, 2000) || !isIn(stock, 0, 20) || !isIn(price, 0, 50)) {
            return BAD_VALUE;
        }
        if (state.types.isFull()) {
            return TOO_MANY;
        }
        history.push(state);
        return state.types.add(watts, stock, price);
    }

    public int days(int premiere, int first, int last) {
        Premiere found = state.find(premiere);
        if (found == null) {
            return NO_SUCH;
        }
        if (!areDays(first, last)) {
            return BAD_VALUE;
        }
        history.push(state);
        int previous = found.last - found.first + 1;
        found.first = first;
        found.last = last;
        return previous;
    }

    public int hang(int premiere, int type, int dimmer) {
        Premiere found = state.find(premiere);
        if (found == null || !state.types.has(type) || !isDimmerOrNone(dimmer)) {
            return NO_SUCH;
        }
        if (found.isFull()) {
            return TOO_MANY;
        }
        history.push(state);
        return found.addLamp(type, dimmer);
    }

    public int takeDown(int premiere, int lamp) {
        Premiere found = state.find(premiere);
        if (found == null || !found.hasLamp(lamp)) {
            return NO_SUCH;
        }
        history.push(state);
        return found.removeLamp(lamp);
    }

    public int patch(int premiere, int lamp, int dimmer) {
        Premiere found = state.find(premiere);
        if (found == null || !found.hasLamp(lamp) || !isDimmerOrNone(dimmer)) {
            return NO_SUCH;
        }
        history.push(state);
        int previous = found.lampDimmer[lamp];
        found.lampDimmer[lamp] = dimmer;
        return previous;
    }

    public int feed(int premiere, int dimmer, int phase) {
        Premiere found = state.find(premiere);
        if (found == null || !isDimmer(dimmer) || !isPhase(phase)) {
            return NO_SUCH;
        }
        history.push(state);
        int previous = found.dimmerPhase[dimmer];
        found.dimmerPhase[dimmer] = phase;
        return previous;
    }

    public int spread(int premiere) {
        Premiere found = state.find(premiere);
        if (found == null) {
            return NO_SUCH;
        }
        history.push(state);
        worst.measure(found, state.types);
        // The row of phases is free here: the new places go by the dimmers' worst loads alone.
        return found.spreadDimmers(worst.loads.ofDimmer, worst.loads.ofPhase);
    }

    // ---- the desk, time

    public int at(int premiere, int lamp, int level) {
        Premiere found = state.find(premiere);
        if (found == null || !found.hasLamp(lamp)) {
            return NO_SUCH;
        }
        if (!isIn(level, 0, FULL_LEVEL)) {
            return BAD_VALUE;
        }
        history.push(state);
        int previous = found.wanted[lamp];
        found.wanted[lamp] = level;
        return previous;
    }

    public int record(int premiere, int cue, int ticks) {
        Premiere found = state.find(premiere);
        if (found == null || !isCue(cue)) {
            return NO_SUCH;
        }
        if (!isIn(ticks, 1, MOST_CUE_TICKS)) {
            return BAD_VALUE;
        }
        history.push(state);
        found.recordCue(cue, ticks);
        return Integer.bitCount(found.recordedCues());
    }

    public int go(int premiere, int cue) {
        Premiere found = state.find(premiere);
        if (found == null || !isCue(cue)) {
            return NO_SUCH;
        }
        if (!found.isRecorded(cue)) {
            return NOT_POSSIBLE;
        }
        history.push(state);
        found.startCue(cue, found.cueTicks[cue]);
        return found.cueTicks[cue];
    }

    public int reset(int premiere) {
        Premiere found = state.find(premiere);
        if (found == null) {
            return NO_SUCH;
        }
        history.push(state);
        return found.clearTrips();
    }

    public int tick(int ticks) {
        if (!isIn(ticks, 1, MOST_TICKS)) {
            return BAD_VALUE;
        }
        history.push(state);
        int trips = 0;
        for (int tick = 0; tick < ticks; tick++) {
            for (Premiere premiere : state.premieres) {
                trips += premiere.passTick(state, loads);
            }
        }
        return trips;
    }

    public int carryOut(int premiere) {
        Premiere found = state.find(premiere);
        if (found == null) {
            return NO_SUCH;
        }
        if (!orders.read()) {
            return BAD_TEXT;
        }
        history.push(state);
        pad.length = 0;
        return orders.carryAllOut(found);
    }

    // ---- what there is; nothing changes

    public int lamp(int premiere, int lamp, int what) {
        Premiere found = state.find(premiere);
        if (found == null || !found.hasLamp(lamp)) {
            return NO_SUCH;
        }
        switch (what) {
            case 0: return found.lampType[lamp];
            case 1: return found.lampDimmer[lamp];
            case 2: return found.wanted[lamp];
            case 3: return found.level[lamp];
            case 4: return found.loadOfLamp(lamp, state.types);
            default: return BAD_VALUE;
        }
    }

    public int dimmer(int premiere, int dimmer, int what) {
        Premiere found = state.find(premiere);
        if (found == null || !isDimmer(dimmer)) {
            return NO_SUCH;
        }
        switch (what) {
            case 0: return found.dimmerPhase[dimmer];
            case 1:
                loads.measureNow(found, state.types);
                return loads.ofDimmer[dimmer];
            case 2: return found.dimmers.hasTripped(dimmer) ? 1 : 0;
            case 3: return found.dimmers.counts[dimmer];
            case 4: return found.lampsOn(dimmer);
            case 5:
                worst.measure(found, state.types);
                return worst.loads.ofDimmer[dimmer];
            default: return BAD_VALUE;
        }
    }

    public int phase(int premiere, int phase, int what) {
        Premiere found = state.find(premiere);
        if (found == null || !isPhase(phase)) {
            return NO_SUCH;
        }
        switch (what) {
            case 0:
                loads.measureNow(found, state.types);
                return loads.ofPhase[phase];
            case 1: return found.phases.hasTripped(phase) ? 1 : 0;
            case 2: return found.phases.counts[phase];
            case 3: return found.dimmersOn(phase);
            case 4:
                worst.measure(found, state.types);
                return worst.loads.ofPhase[phase];
            default: return BAD_VALUE;
        }
    }

    public int cue(int premiere, int cue, int what) {
        Premiere found = state.find(premiere);
        if (found == null || !isCue(cue)) {
            return NO_SUCH;
        }
        switch (what) {
            case 0: return found.isRecorded(cue) ? 1 : 0;
            case 1: return found.cueTicks[cue];
            case 2:
                loads.measureCue(found, cue, state.types);
                return loads.sumOfPhases();
            default: return BAD_VALUE;
        }
    }

    public int inCue(int premiere, int cue, int lamp) {
        Premiere found = state.find(premiere);
        if (found == null || !isCue(cue) || !found.hasLamp(lamp)) {
            return NO_SUCH;
        }
        return found.isRecorded(cue) ? found.cueLevel[cue][lamp] : NONE;
    }

    public int of(int premiere, int what) {
        Premiere found = state.find(premiere);
        if (found == null) {
            return NO_SUCH;
        }
        switch (what) {
            case 0: return found.first;
            case 1: return found.last;
            case 2: return found.lamps;
            case 3: return found.recordedCues();
            case 4: return found.fade.ticksLeft();
            case 5:
                loads.measureNow(found, state.types);
                return loads.sumOfPhases();
            case 6: return found.dimmers.tripped;
            case 7: return found.phases.tripped;
            case 8:
                loads.measureNow(found, state.types);
                return greatest(loads.ofPhase) - least(loads.ofPhase);
            default: return BAD_VALUE;
        }
    }

    public int hire(int type, int day, int what) {
        if (!state.types.has(type)) {
            return NO_SUCH;
        }
        if (!isIn(day, 0, DAYS - 1)) {
            return BAD_VALUE;
        }
        switch (what) {
            case 0: return state.needed(type, day);
            case 1: return state.missing(type, day);
            case 2: return state.cost(type, day);
            default: return BAD_VALUE;
        }
    }

    public int count(int what) {
        switch (what) {
            case 0: return state.types.told;
            case 1: return state.wholeCost();
            case 2: return state.allMissing();
            case 3: return state.busiestDay();
            case 4: return state.settings[CAP];
            case 5: return state.settings[LIMIT];
            case 6: return state.settings[HOLD];
            case 7: return pad.length;
            case 8: return history.size;
            default: return BAD_VALUE;
        }
    }

    // ---- what if; nothing changes

    public int ifGo(int premiere, int cue, int what) {
        Premiere found = state.find(premiere);
        if (found == null || !isCue(cue)) {
            return NO_SUCH;
        }
        if (!isIn(what, 0, 3)) {
            return BAD_VALUE;
        }
        if (!found.isRecorded(cue)) {
            return NOT_POSSIBLE;
        }
        trial.playToTheEnd(state, found, cue, loads);
        switch (what) {
            case 0: return trial.trips;
            case 1: return trial.firstTrip;
            case 2: return trial.greatestOfDimmers;
            default: return trial.greatestOfPhases;
        }
    }

    public int safeTicks(int premiere, int cue) {
        Premiere found = state.find(premiere);
        if (found == null || !isCue(cue)) {
            return NO_SUCH;
        }
        if (!found.isRecorded(cue)) {
            return NOT_POSSIBLE;
        }
        for (int ticks = 1; ticks <= MOST_CUE_TICKS; ticks++) {
            if (trial.isSafe(state, found, cue, ticks, loads)) {
                return ticks;
            }
        }
        return NONE;
    }

    public int bestFeed(int premiere, int dimmer) {
        Premiere found = state.find(premiere);
        if (found == null || !isDimmer(dimmer)) {
            return NO_SUCH;
        }
        int previous = found.dimmerPhase[dimmer];
        int best = 0;
        int leastSoFar = 0;
        for (int phase = 0; phase < PHASES; phase++) {
            found.dimmerPhase[dimmer] = phase;
            worst.measure(found, state.types);
            int reached = greatest(worst.loads.ofPhase);
            if (phase == 0 || reached < leastSoFar) {
                leastSoFar = reached;
                best = phase;
            }
        }
        found.dimmerPhase[dimmer] = previous;
        return best;
    }

    public int ifDays(int premiere, int first, int last) {
        Premiere found = state.find(premiere);
        if (found == null) {
            return NO_SUCH;
        }
        if (!areDays(first, last)) {
            return BAD_VALUE;
        }
        int previousFirst = found.first;
        int previousLast = found.last;
        found.first = first;
        found.last = last;
        int missing = state.allMissing();
        found.first = previousFirst;
        found.last = previousLast;
        return missing;
    }

    // ---- texts

    public int put(long characters) {
        int signs = Pad.signsIn(characters);
        if (signs == 0) {
            return BAD_VALUE;
        }
        if (pad.length + signs > PAD_LENGTH) {
            return TOO_MANY;
        }
        pad.append(characters, signs);
        return pad.length;
    }

    public int wipe() {
        int previous = pad.length;
        pad.length = 0;
        return previous;
    }

    public int fault() {
        return orders.read() ? NONE : orders.place;
    }

    // ---- undo, saving

    public int undo() {
        return history.pop(state) ? history.size : NOT_POSSIBLE;
    }

    public int save(int slot) {
        if (!isIn(slot, 0, SLOTS - 1)) {
            return BAD_VALUE;
        }
        slots[slot].copyFrom(state);
        savedSlots |= 1 << slot;
        return state.allLamps();
    }

    public int restore(int slot) {
        if (!isIn(slot, 0, SLOTS - 1)) {
            return BAD_VALUE;
        }
        if (!hasBit(savedSlots, slot)) {
            return NOT_POSSIBLE;
        }
        history.push(state);
        state.copyFrom(slots[slot]);
        return state.allLamps();
    }

    // ---- small helpers

    private static boolean isIn(int value, int least, int most) {
        return value >= least && value <= most;
    }

    private static boolean isDimmer(int dimmer) {
        return isIn(dimmer, 0, DIMMERS - 1);
    }

    private static boolean isDimmerOrNone(int dimmer) {
        return dimmer == NONE || isDimmer(dimmer);
    }

    private static boolean isPhase(int phase) {
        return isIn(phase, 0, PHASES - 1);
    }

    private static boolean isCue(int cue) {
        return isIn(cue, 0, CUES - 1);
    }

    private static boolean areDays(int first, int last) {
        return isIn(first, 0, DAYS - 1) && isIn(last, first, DAYS - 1);
    }

    private static boolean hasBit(int set, int number) {
        return (set >> number & 1) != 0;
    }

    private static int greatest(int[] row) {
        int greatest = 0;
        for (int number : row) {
            greatest = Math.max(greatest, number);
        }
        return greatest;
    }

    private static int least(int[] row) {
        int least = row.length > 0 ? row[0] : 0;
        for (int number : row) {
            least = Math.min(least, number);
        }
        return least;
    }

    private static void clear(int[] row) {
        for (int i = 0; i < row.length; i++) {
            row[i] = 0;
        }
    }

    private static void copy(int[] from, int[] to) {
        for (int i = 0; i < from.length && i < to.length; i++) {
            to[i] = from[i];
        }
    }

    /** The place that becomes free holds 0, as a lamp that is hung later has to find it. */
    private static void closeGap(int[] row, int gap) {
        for (int i = Math.max(gap, 0); i < row.length; i++) {
            row[i] = i + 1 < row.length ? row[i + 1] : 0;
        }
    }

    private static void raise(int[] row, int[] other) {
        for (int i = 0; i < row.length && i < other.length; i++) {
            row[i] = Math.max(row[i], other[i]);
        }
    }

    /** Everything that undo brings back and a slot keeps. */
    private static final class State {
        final int[] settings = FIRST_SETTING.clone();
        final Types types = new Types();
        final Premiere[] premieres = new Premiere[PREMIERES];

        State() {
            for (int i = 0; i < premieres.length; i++) {
                premieres[i] = new Premiere();
            }
        }

        Premiere find(int premiere) {
            return isIn(premiere, 0, premieres.length - 1) ? premieres[premiere] : null;
        }

        void copyFrom(State other) {
            copy(other.settings, settings);
            types.copyFrom(other.types);
            for (int i = 0; i < premieres.length && i < other.premieres.length; i++) {
                premieres[i].copyFrom(other.premieres[i]);
            }
        }

        int allLamps() {
            int lamps = 0;
            for (Premiere premiere : premieres) {
                lamps += premiere.lamps;
            }
            return lamps;
        }

        int needed(int type, int day) {
            int needed = 0;
            for (Premiere premiere : premieres) {
                if (premiere.isOn(day)) {
                    needed += premiere.lampsOfType(type);
                }
            }
            return needed;
        }

        int missing(int type, int day) {
            return Math.max(0, needed(type, day) - types.stockOf(type));
        }

        int cost(int type, int day) {
            return types.priceOf(type) * Math.min(needed(type, day), types.stockOf(type));
        }

        int wholeCost() {
            int cost = 0;
            for (int type = 0; type < types.told; type++) {
                for (int day = 0; day < DAYS; day++) {
                    cost += cost(type, day);
                }
            }
            return cost;
        }

        int allMissing() {
            int missing = 0;
            for (int type = 0; type < types.told; type++) {
                for (int day = 0; day < DAYS; day++) {
                    missing += missing(type, day);
                }
            }
            return missing;
        }

        int busiestDay() {
            int busiest = 0;
            int most = 0;
            for (int day = 0; day < DAYS; day++) {
                int needed = neededOn(day);
                if (needed > most) {
                    most = needed;
                    busiest = day;
                }
            }
            return busiest;
        }

        private int neededOn(int day) {
            int needed = 0;
            for (Premiere premiere : premieres) {
                if (premiere.isOn(day)) {
                    needed += premiere.lamps;
                }
            }
            return needed;
        }
    }

    /** The types of lamps, in the order in which they were told. */
    private static final class Types {
        int told;
        final int[] watts = new int[MOST_TYPES];
        final int[] stock = new int[MOST_TYPES];
        final int[] price = new int[MOST_TYPES];

        boolean isFull() {
            return told >= MOST_TYPES;
        }

        boolean has(int type) {
            return type >= 0 && type < told && type < MOST_TYPES;
        }

        int add(int newWatts, int newStock, int newPrice) {
            if (isFull()) {
                return TOO_MANY;
            }
            int type = told++;
            watts[type] = newWatts;
            stock[type] = newStock;
            price[type] = newPrice;
            return type;
        }

        int wattsOf(int type) {
            return type >= 0 && type < watts.length ? watts[type] : 0;
        }

        int stockOf(int type) {
            return has(type) ? stock[type] : 0;
        }

        int priceOf(int type) {
            return has(type) ? price[type] : 0;
        }

        void copyFrom(Types other) {
            told = other.told;
            copy(other.watts, watts);
            copy(other.stock, stock);
            copy(other.price, price);
        }
    }

    /** Rows of lamps hold 0 behind the last lamp of the rig. A cue with 0 ticks is not recorded. */
    private static final class Premiere {
        int first;
        int last;
        int lamps;
        final int[] lampType = new int[MOST_LAMPS];
        final int[] lampDimmer = new int[MOST_LAMPS];
        final int[] wanted = new int[MOST_LAMPS];
        final int[] level = new int[MOST_LAMPS];
        final int[] dimmerPhase = new int[DIMMERS];
        final int[] cueTicks = new int[CUES];
        final int[][] cueLevel = new int[CUES][MOST_LAMPS];
        final Fade fade = new Fade();
        final Breakers dimmers = new Breakers(new int[DIMMERS]);
        final Breakers phases = new Breakers(new int[PHASES]);

        Premiere() {
            for (int dimmer = 0; dimmer < DIMMERS; dimmer++) {
                dimmerPhase[dimmer] = dimmer % PHASES;
            }
        }

        void copyFrom(Premiere other) {
            first = other.first;
            last = other.last;
            lamps = other.lamps;
            copy(other.lampType, lampType);
            copy(other.lampDimmer, lampDimmer);
            copy(other.wanted, wanted);
            copy(other.level, level);
            copy(other.dimmerPhase, dimmerPhase);
            copy(other.cueTicks, cueTicks);
            for (int cue = 0; cue < CUES; cue++) {
                copy(other.cueLevel[cue], cueLevel[cue]);
            }
            fade.copyFrom(other.fade);
            dimmers.copyFrom(other.dimmers);
            phases.copyFrom(other.phases);
        }

        boolean isOn(int day) {
            return isIn(day, first, last);
        }

        boolean isFull() {
            return lamps >= MOST_LAMPS;
        }

        boolean hasLamp(int lamp) {
            return lamp >= 0 && lamp < lamps && lamp < MOST_LAMPS;
        }

        int addLamp(int type, int dimmer) {
            if (isFull()) {
                return TOO_MANY;
            }
            int lamp = lamps++;
            lampType[lamp] = type;
            lampDimmer[lamp] = dimmer;
            return lamp;
        }

        int removeLamp(int lamp) {
            if (!hasLamp(lamp)) {
                return lamps;
            }
            closeGap(lampType, lamp);
            closeGap(lampDimmer, lamp);
            closeGap(wanted, lamp);
            closeGap(level, lamp);
            for (int[] levels : cueLevel) {
                closeGap(levels, lamp);
            }
            fade.removeLamp(lamp);
            lamps--;
            return lamps;
        }

        int lampsOfType(int type) {
            int found = 0;
            for (int lamp = 0; lamp < MOST_LAMPS && hasLamp(lamp); lamp++) {
                if (lampType[lamp] == type) {
                    found++;
                }
            }
            return found;
        }

        int lampsOn(int dimmer) {
            int found = 0;
            for (int lamp = 0; lamp < MOST_LAMPS && hasLamp(lamp); lamp++) {
                if (lampDimmer[lamp] == dimmer) {
                    found++;
                }
            }
            return found;
        }

        int dimmersOn(int phase) {
            int found = 0;
            for (int dimmer = 0; dimmer < DIMMERS; dimmer++) {
                if (dimmerPhase[dimmer] == phase) {
                    found |= 1 << dimmer;
                }
            }
            return found;
        }

        boolean isRecorded(int cue) {
            return isCue(cue) && cueTicks[cue] > 0;
        }

        int recordedCues() {
            int recorded = 0;
            for (int cue = 0; cue < CUES; cue++) {
                if (isRecorded(cue)) {
                    recorded |= 1 << cue;
                }
            }
            return recorded;
        }

        void recordCue(int cue, int ticks) {
            if (isCue(cue)) {
                cueTicks[cue] = ticks;
                copy(wanted, cueLevel[cue]);
            }
        }

        void startCue(int cue, int ticks) {
            if (isCue(cue)) {
                fade.start(level, cueLevel[cue], ticks);
            }
        }

        int clearTrips() {
            return dimmers.clearTrips() + phases.clearTrips();
        }

        /** The loads are left as they are behind the whole tick, also behind its trips. */
        int passTick(State state, Loads loads) {
            int hold = state.settings[HOLD];
            fade.step(level);
            loads.measureNow(this, state.types);
            int dimmerTrips = dimmers.check(loads.ofDimmer, state.settings[CAP], hold);
            if (dimmerTrips > 0) {
                loads.measureNow(this, state.types);
            }
            int phaseTrips = phases.check(loads.ofPhase, state.settings[LIMIT], hold);
            if (phaseTrips > 0) {
                loads.measureNow(this, state.types);
            }
            return dimmerTrips + phaseTrips;
        }

        int loadOfLamp(int lamp, Types types) {
            return isFed(lamp) ? draw(lamp, level, types) : 0;
        }

        int draw(int lamp, int[] levels, Types types) {
            if (!hasLamp(lamp) || lamp >= levels.length) {
                return 0;
            }
            return types.wattsOf(lampType[lamp]) * levels[lamp] / FULL_LEVEL;
        }

        int dimmerOf(int lamp) {
            return lamp >= 0 && lamp < lampDimmer.length ? lampDimmer[lamp] : NONE;
        }

        int phaseOf(int dimmer) {
            return dimmer >= 0 && dimmer < dimmerPhase.length ? dimmerPhase[dimmer] : NONE;
        }

        private boolean isFed(int lamp) {
            int dimmer = dimmerOf(lamp);
            return dimmer != NONE && !dimmers.hasTripped(dimmer) && !phases.hasTripped(phaseOf(dimmer));
        }

        int spreadDimmers(int[] worstLoads, int[] sums) {
            int put = 0;
            int moved = 0;
            clear(sums);
            for (int turn = 0; turn < DIMMERS; turn++) {
                int dimmer = heaviestLeft(worstLoads, put);
                int phase = lightest(sums);
                if (dimmerPhase[dimmer] != phase) {
                    moved++;
                }
                dimmerPhase[dimmer] = phase;
                sums[phase] += worstLoads[dimmer];
                put |= 1 << dimmer;
            }
            return moved;
        }

        private static int heaviestLeft(int[] worstLoads, int put) {
            int heaviest = 0;
            int most = -1;
            for (int dimmer = 0; dimmer < worstLoads.length; dimmer++) {
                if (!hasBit(put, dimmer) && worstLoads[dimmer] > most) {
                    most = worstLoads[dimmer];
                    heaviest = dimmer;
                }
            }
            return heaviest;
        }

        private static int lightest(int[] sums) {
            int lightest = 0;
            for (int phase = 1; phase < sums.length; phase++) {
                if (sums[phase] < sums[lightest]) {
                    lightest = phase;
                }
            }
            return lightest;
        }
    }

    /** It holds levels of its own: the cue may be recorded anew while it goes on. 0 ticks: there is none. */
    private static final class Fade {
        int ticks;
        int gone;
        final int[] from = new int[MOST_LAMPS];
        final int[] to = new int[MOST_LAMPS];

        void start(int[] levels, int[] goal, int newTicks) {
            ticks = newTicks;
            gone = 0;
            copy(levels, from);
            copy(goal, to);
        }

        int ticksLeft() {
            return ticks - gone;
        }

        void step(int[] levels) {
            if (ticks <= 0) {
                return;
            }
            gone++;
            for (int lamp = 0; lamp < MOST_LAMPS && lamp < levels.length; lamp++) {
                levels[lamp] = from[lamp] + (to[lamp] - from[lamp]) * gone / ticks;
            }
            if (gone >= ticks) {
                ticks = 0;
                gone = 0;
            }
        }

        void removeLamp(int lamp) {
            closeGap(from, lamp);
            closeGap(to, lamp);
        }

        void copyFrom(Fade other) {
            ticks = other.ticks;
            gone = other.gone;
            copy(other.from, from);
            copy(other.to, to);
        }
    }

    /** Those of the dimmers, or those of the phases, of a premiere. */
    private static final class Breakers {
        final int[] counts;
        int tripped;

        Breakers(int[] counts) {
            this.counts = counts;
        }

        /** Not by hasBit(): this stands at the end of the deepest chain of calls. */
        boolean hasTripped(int number) {
            return (tripped >> number & 1) != 0;
        }

        /** What has tripped has no load, so that its count stays 0 and it does not trip again. */
        int check(int[] loads, int most, int hold) {
            int trips = 0;
            for (int i = 0; i < counts.length && i < loads.length; i++) {
                counts[i] = loads[i] > most ? counts[i] + 1 : 0;
                if (counts[i] >= hold) {
                    counts[i] = 0;
                    tripped |= 1 << i;
                    trips++;
                }
            }
            return trips;
        }

        int clearTrips() {
            int trips = Integer.bitCount(tripped);
            tripped = 0;
            clear(counts);
            return trips;
        }

        void copyFrom(Breakers other) {
            tripped = other.tripped;
            copy(other.counts, counts);
        }
    }

    /** Loads of the dimmers and phases of one premiere, as they were measured last. */
    private static final class Loads {
        final int[] ofDimmer = new int[DIMMERS];
        final int[] ofPhase = new int[PHASES];

        void measureNow(Premiere premiere, Types types) {
            empty();
            for (int lamp = 0; lamp < premiere.lamps; lamp++) {
                add(premiere, lamp, premiere.loadOfLamp(lamp, types));
            }
        }

        /** By a cue that is not recorded there is no load. */
        void measureCue(Premiere premiere, int cue, Types types) {
            empty();
            if (!premiere.isRecorded(cue)) {
                return;
            }
            for (int lamp = 0; lamp < premiere.lamps; lamp++) {
                add(premiere, lamp, premiere.draw(lamp, premiere.cueLevel[cue], types));
            }
        }

        void empty() {
            clear(ofDimmer);
            clear(ofPhase);
        }

        int sumOfPhases() {
            int sum = 0;
            for (int load : ofPhase) {
                sum += load;
            }
            return sum;
        }

        private void add(Premiere premiere, int lamp, int load) {
            int dimmer = premiere.dimmerOf(lamp);
            int phase = premiere.phaseOf(dimmer);
            if (isDimmer(dimmer) && isPhase(phase)) {
                ofDimmer[dimmer] += load;
                ofPhase[phase] += load;
            }
        }
    }

    /** The greatest loads by any recorded cue, if nothing had tripped. */
    private static final class Worst {
        final Loads loads = new Loads();
        private final Loads byCue = new Loads();

        void measure(Premiere premiere, Types types) {
            loads.empty();
            for (int cue = 0; cue < CUES; cue++) {
                byCue.measureCue(premiere, cue, types);
                raise(loads.ofDimmer, byCue.ofDimmer);
                raise(loads.ofPhase, byCue.ofPhase);
            }
        }
    }

    /** A premiere that plays a cue aside, so that the real one stays as it is. */
    private static final class Trial {
        private final Premiere aside = new Premiere();
        int trips;
        int firstTrip;
        int greatestOfDimmers;
        int greatestOfPhases;

        void playToTheEnd(State state, Premiere real, int cue, Loads loads) {
            int ticks = real.isRecorded(cue) ? real.cueTicks[cue] : 0;
            begin(real, cue, ticks);
            for (int tick = 1; tick <= ticks + state.settings[HOLD]; tick++) {
                int tripped = aside.passTick(state, loads);
                if (tripped > 0 && firstTrip == NONE) {
                    firstTrip = tick;
                }
                trips += tripped;
                greatestOfDimmers = Math.max(greatestOfDimmers, greatest(loads.ofDimmer));
                greatestOfPhases = Math.max(greatestOfPhases, greatest(loads.ofPhase));
            }
        }

        boolean isSafe(State state, Premiere real, int cue, int ticks, Loads loads) {
            begin(real, cue, ticks);
            for (int tick = 1; tick <= ticks + state.settings[HOLD]; tick++) {
                if (aside.passTick(state, loads) > 0) {
                    return false;
                }
            }
            return true;
        }

        private void begin(Premiere real, int cue, int ticks) {
            aside.copyFrom(real);
            aside.startCue(cue, ticks);
            trips = 0;
            firstTrip = NONE;
            greatestOfDimmers = 0;
            greatestOfPhases = 0;
        }
    }

    /** The states before the latest changes, the oldest first. */
    private static final class History {
        private final State[] states = new State[MOST_CHANGES];
        int size;

        History() {
            for (int i = 0; i < states.length; i++) {
                states[i] = new State();
            }
        }

        void push(State state) {
            if (size >= states.length) {
                dropOldest();
            }
            states[size].copyFrom(state);
            size++;
        }

        boolean pop(State state) {
            if (size <= 0) {
                return false;
            }
            size--;
            state.copyFrom(states[size]);
            return true;
        }

        /** The rows of the oldest state are used again for the next one. */
        private void dropOldest() {
            State oldest = states[0];
            for (int i = 0; i + 1 < states.length; i++) {
                states[i] = states[i + 1];
            }
            states[states.length - 1] = oldest;
            size = states.length - 1;
        }
    }

    /** The text of the pad. */
    private static final class Pad {
        final int[] signs = new int[PAD_LENGTH];
        int length;

        /** 0 also says that the characters are not as they have to be. */
        static int signsIn(long characters) {
            for (int sign = 0; sign < SIGNS_OF_A_LONG; sign++) {
                long left = characters >>> 8 * sign;
                long code = left & 255;
                if (code == 0) {
                    return left == 0 ? sign : 0;
                }
                if (code < 33 || code > 126) {
                    return 0;
                }
            }
            return SIGNS_OF_A_LONG;
        }

        void append(long characters, int added) {
            for (int sign = added - 1; sign >= 0 && length < signs.length; sign--) {
                signs[length] = (int) (characters >>> 8 * sign & 255);
                length++;
            }
        }
    }

    /** The pad and its orders, read from left to right; the place at which reading stops is the fault. */
    private static final class Orders {
        private static final int LEVELS = 0, RECORD = 1, GO = 2, RESET = 3;

        final Pad pad = new Pad();
        int place;
        /** The sign at the place; NONE behind the text. */
        private int sign;
        /** An order or a span takes a sign at least, so that there are not more of them than signs. */
        private int orders;
        private final int[] kind = new int[PAD_LENGTH];
        private final int[] levelOrCue = new int[PAD_LENGTH];
        private final int[] cueTicks = new int[PAD_LENGTH];
        private final int[] spansEnd = new int[PAD_LENGTH];
        private int spans;
        private final int[] spanFirst = new int[PAD_LENGTH];
        private final int[] spanLast = new int[PAD_LENGTH];

        boolean read() {
            orders = 0;
            spans = 0;
            stepTo(0);
            for (int turn = 0; turn < PAD_LENGTH; turn++) {
                if (!readOrder()) {
                    return false;
                }
                if (place >= pad.length) {
                    return true;
                }
                if (!take(';')) {
                    return false;
                }
            }
            return false;
        }

        private boolean readOrder() {
            if (take('r')) {
                return readRecord();
            }
            if (take('g')) {
                return readGo();
            }
            if (take('x')) {
                return note(RESET, 0, 0);
            }
            return readLevels();
        }

        private boolean readRecord() {
            int cue = readNumber(0, CUES - 1);
            if (cue == NONE || !take('/')) {
                return false;
            }
            int ticks = readNumber(1, MOST_CUE_TICKS);
            return ticks != NONE && note(RECORD, cue, ticks);
        }

        private boolean readGo() {
            int cue = readNumber(0, CUES - 1);
            return cue != NONE && note(GO, cue, 0);
        }

        private boolean readLevels() {
            boolean more = true;
            for (int turn = 0; turn < PAD_LENGTH && more; turn++) {
                if (!readSpan()) {
                    return false;
                }
                more = take('+');
            }
            if (!take('@')) {
                return false;
            }
            int level = readNumber(0, FULL_LEVEL);
            return level != NONE && note(LEVELS, level, 0);
        }

        private boolean readSpan() {
            int first = readNumber(0, MOST_LAMPS - 1);
            if (first == NONE) {
                return false;
            }
            int last = take('>') ? readNumber(0, MOST_LAMPS - 1) : first;
            if (last == NONE || spans >= PAD_LENGTH) {
                return false;
            }
            spanFirst[spans] = first;
            spanLast[spans] = last;
            spans++;
            return true;
        }

        /**
         * NONE, if no number from least (0 or 1) to most stands here. A digit that cannot belong to the
         * number is left: nothing that may come behind a number is a digit, so it becomes the fault.
         */
        private int readNumber(int least, int most) {
            int number = digitHere();
            if (number < least || number > most) {
                return NONE;
            }
            stepTo(place + 1);
            for (int digits = 1; digits < 3 && number > 0; digits++) {
                int digit = digitHere();
                if (digit == NONE || number * 10 + digit > most) {
                    return number;
                }
                number = number * 10 + digit;
                stepTo(place + 1);
            }
            return number;
        }

        private int digitHere() {
            return sign >= '0' && sign <= '9' ? sign - '0' : NONE;
        }

        private boolean take(char wanted) {
            if (sign != wanted) {
                return false;
            }
            stepTo(place + 1);
            return true;
        }

        private void stepTo(int next) {
            place = next;
            sign = next >= 0 && next < pad.length && next < PAD_LENGTH ? pad.signs[next] : NONE;
        }

        private boolean note(int newKind, int newLevelOrCue, int newTicks) {
            if (orders >= PAD_LENGTH) {
                return false;
            }
            kind[orders] = newKind;
            levelOrCue[orders] = newLevelOrCue;
            cueTicks[orders] = newTicks;
            spansEnd[orders] = spans;
            orders++;
            return true;
        }

        int carryAllOut(Premiere premiere) {
            for (int order = 0; order < orders && order < PAD_LENGTH; order++) {
                if (!carryOneOut(order, premiere)) {
                    return order;
                }
            }
            return orders;
        }

        private boolean carryOneOut(int order, Premiere premiere) {
            switch (kind[order]) {
                case LEVELS:
                    return changeLevels(order, premiere);
                case RECORD:
                    premiere.recordCue(levelOrCue[order], cueTicks[order]);
                    return true;
                case GO:
                    return startRecorded(levelOrCue[order], premiere);
                default:
                    premiere.clearTrips();
                    return true;
            }
        }

        private boolean startRecorded(int cue, Premiere premiere) {
            if (!premiere.isRecorded(cue)) {
                return false;
            }
            premiere.startCue(cue, premiere.cueTicks[cue]);
            return true;
        }

        private boolean changeLevels(int order, Premiere premiere) {
            int begin = order > 0 ? spansEnd[order - 1] : 0;
            for (int span = begin; span < spansEnd[order] && span < PAD_LENGTH; span++) {
                if (!changeSpan(premiere, spanFirst[span], spanLast[span], levelOrCue[order])) {
                    return false;
                }
            }
            return true;
        }

        private boolean changeSpan(Premiere premiere, int firstLamp, int lastLamp, int level) {
            int step = lastLamp < firstLamp ? -1 : 1;
            int far = Math.abs(lastLamp - firstLamp);
            for (int i = 0; i <= far && i < MOST_LAMPS; i++) {
                int lamp = firstLamp + i * step;
                if (!premiere.hasLamp(lamp)) {
                    return false;
                }
                premiere.wanted[lamp] = level;
            }
            return true;
        }
    }
}
