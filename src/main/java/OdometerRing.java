/** An odometer that keeps its distance in a ring of wearing memory slots, through power cuts. */
public final class OdometerRing {
    public static final int NONE = -99999;

    private static final int CELLS = 3;
    private static final int MOST_SLOTS = 12;
    private static final int MOST_WEAR = 999;
    private static final int MOST_STEP = 99;
    private static final int MOST_TENTHS = 999;
    private static final int MOST_SERVICES = 12;
    private static final int MOST_SIGNS = 90;
    private static final int MOST_REMEMBERED = 14;
    private static final int MOST_COMMANDS = 4;
    private static final int MOST_ROUNDS = 99;
    private static final int SAVE_SLOTS = 2;
    private static final int FARTHEST_CUT = 36;
    private static final int LAST_CUT_KIND = 2;
    private static final int FARTHEST = 9999;

    private final Story story = new Story();
    private final Odometer state = new Odometer();
    // What would be is tried on this one, so that no call has to make a copy of its own.
    private final Odometer trial = new Odometer();
    private final History history = new History();
    private final Shelf saved = new Shelf(SAVE_SLOTS);

    public OdometerRing() {
    }

    // ---- text

    public int append(int c) throws IllegalArgumentException, IllegalStateException {
        if (c < 0 || c > 255) {
            throw new IllegalArgumentException("c is not 0 to 255");
        }
        if (story.length >= MOST_SIGNS) {
            throw new IllegalStateException("the text is full");
        }
        return story.add(c);
    }

    public int clearText() {
        return story.empty();
    }

    public int errorPosition() {
        return story.errorAt();
    }

    public int load() throws IllegalStateException {
        if (story.errorAt() != NONE || !story.readHead()) {
            throw new IllegalStateException("the text is not a story");
        }
        state.makeNew(story.slots, story.step, story.limit);
        history.forgetAll();
        saved.emptyAll();
        int leftOut = 0;
        for (int i = 0; i < MOST_SIGNS && !story.isAtEnd(); i++) {
            if (!story.readCommand() || !state.obey(story.letter, story.first, story.second)) {
                leftOut++;
            }
        }
        return leftOut;
    }

    // ---- what there is

    public int about(int what) throws IllegalArgumentException {
        if (what < 0 || what > 14) {
            throw new IllegalArgumentException("what is not 0 to 14");
        }
        return what < 8 ? state.tellOfDriving(what) : state.tellOfMemory(what);
    }

    public int cell(int slot, int i, int what) throws IndexOutOfBoundsException, IllegalArgumentException {
        if (!state.cells.hasSlot(slot) || i < 0 || i >= CELLS) {
            throw new IndexOutOfBoundsException("there is no such slot or cell");
        }
        if (what < 0 || what > 2) {
            throw new IllegalArgumentException("what is not 0 to 2");
        }
        if (what == 0) {
            return state.cells.numberIn(slot, i);
        }
        if (what == 1) {
            return state.cells.wearOf(slot, i);
        }
        return state.cells.isStuck(slot, i) ? 1 : 0;
    }

    public int says(int slot) throws IndexOutOfBoundsException {
        if (!state.cells.hasSlot(slot)) {
            throw new IndexOutOfBoundsException("there is no such slot");
        }
        return state.cells.spokenBy(slot);
    }

    public int whySilent(int slot) throws IndexOutOfBoundsException {
        if (!state.cells.hasSlot(slot)) {
            throw new IndexOutOfBoundsException("there is no such slot");
        }
        if (state.cells.spokenBy(slot) != NONE) {
            return 0;
        }
        return state.cells.readableIn(slot) < 2 ? 1 : 2;
    }

    public int share(int slot) throws IndexOutOfBoundsException {
        if (!state.cells.hasSlot(slot)) {
            throw new IndexOutOfBoundsException("there is no such slot");
        }
        int all = 0;
        for (int each = 0; each < state.cells.slots; each++) {
            all += state.cells.wearOfSlot(each);
        }
        return all == 0 ? 0 : 100 * state.cells.wearOfSlot(slot) / all;
    }

    public int serviceAt(int i, int what) throws IllegalArgumentException {
        if (i < 0 || what < 0 || what > 2) {
            throw new IllegalArgumentException("i is negative, or what is not 0 to 2");
        }
        if (i >= state.services.count) {
            return NONE;
        }
        if (what == 2) {
            return state.services.notedAt(i);
        }
        int code = state.services.codeAt(i);
        return what == 0 ? code / 10 : code % 10;
    }

    public int lastCut(int what) throws IllegalArgumentException {
        switch (what) {
            case 0:
                return state.lastSlot;
            case 1:
                return state.lastCell;
            case 2:
                return state.lastKind;
            case 3:
                return state.lastTried;
            default:
                throw new IllegalArgumentException("what is not 0 to 3");
        }
    }

    // ---- actions

    public int drive(int tenths) throws IllegalArgumentException, IllegalStateException {
        if (!isTenths(tenths)) {
            throw new IllegalArgumentException("tenths is not 1 to 999");
        }
        if (!state.on) {
            throw new IllegalStateException("the power is off");
        }
        history.remember(state);
        return state.driveOn(tenths);
    }

    public int cut(int n, int kind) throws IllegalArgumentException, IllegalStateException {
        if (!isCut(n, kind)) {
            throw new IllegalArgumentException("n is not 1 to 36, or kind is not 0 to 2");
        }
        if (!state.on) {
            throw new IllegalStateException("the power is off");
        }
        history.remember(state);
        return state.setCut(n, kind);
    }

    public int start() throws IllegalStateException {
        if (state.on) {
            throw new IllegalStateException("the power is on");
        }
        history.remember(state);
        return state.switchOn();
    }

    public int service(int kind, int part) throws IllegalArgumentException, IllegalStateException {
        if (!isService(kind, part)) {
            throw new IllegalArgumentException("kind or part is not 0 to 9");
        }
        if (!state.on || !state.services.hasRoomFor(kind, part)) {
            throw new IllegalStateException("the power is off, or there are 12 other services");
        }
        history.remember(state);
        return state.noteService(kind, part);
    }

    public int forget(int kind, int part) throws IllegalArgumentException, IllegalStateException {
        if (!isService(kind, part)) {
            throw new IllegalArgumentException("kind or part is not 0 to 9");
        }
        int place = state.services.placeOf(kind, part);
        if (place == NONE) {
            throw new IllegalStateException("the service is not noted");
        }
        history.remember(state);
        return state.services.takeOut(place);
    }

    public int setStep(int step) throws IllegalArgumentException {
        if (!isStep(step)) {
            throw new IllegalArgumentException("step is not 1 to 99");
        }
        history.remember(state);
        int previous = state.step;
        state.step = step;
        return previous;
    }

    public int replace(int slot) throws IndexOutOfBoundsException, IllegalStateException {
        if (!state.cells.hasSlot(slot)) {
            throw new IndexOutOfBoundsException("there is no such slot");
        }
        if (!state.canReplace(slot)) {
            throw new IllegalStateException("the power is off, or it is the current slot");
        }
        history.remember(state);
        return state.cells.renew(slot);
    }

    public int undo() throws IllegalStateException {
        if (history.count == 0) {
            throw new IllegalStateException("no state is remembered");
        }
        return history.takeBack(state);
    }

    // ---- what would be

    public int afterCut(int n, int kind) throws IllegalArgumentException, IllegalStateException {
        if (!isCut(n, kind)) {
            throw new IllegalArgumentException("n is not 1 to 36, or kind is not 0 to 2");
        }
        if (!state.on || state.dead) {
            throw new IllegalStateException("the power is off, or the memory is dead");
        }
        return toldAfterCut(n, kind);
    }

    public int worstLoss() throws IllegalStateException {
        if (!state.on || state.dead) {
            throw new IllegalStateException("the power is off, or the memory is dead");
        }
        int smallest = state.distance;
        for (int n = 1; n <= FARTHEST_CUT; n++) {
            for (int kind = 0; kind <= LAST_CUT_KIND; kind++) {
                smallest = Math.min(smallest, toldAfterCut(n, kind));
            }
        }
        return state.distance - smallest;
    }

    public int lasts(int step) throws IllegalArgumentException, IllegalStateException {
        if (!isStep(step)) {
            throw new IllegalArgumentException("step is not 1 to 99");
        }
        if (!state.on) {
            throw new IllegalStateException("the power is off");
        }
        trial.becomeLike(state);
        trial.step = step;
        trial.cutIn = 0;
        return trial.driveTillDead();
    }

    public int dueIn(int kind, int part, int interval) throws IllegalArgumentException, IllegalStateException {
        if (!isService(kind, part) || interval < 1 || interval > FARTHEST) {
            throw new IllegalArgumentException("kind or part is not 0 to 9, or interval is not 1 to 9999");
        }
        if (!state.on) {
            throw new IllegalStateException("the power is off");
        }
        int place = state.services.placeOf(kind, part);
        return place == NONE ? NONE : state.services.notedAt(place) + interval - state.distance;
    }

    public int dueFirst() {
        int first = state.services.placeOfSmallest();
        return first == NONE ? NONE : state.services.codeAt(first);
    }

    // ---- scripts, simulations

    public int runScript(int n, long script) throws IllegalArgumentException {
        if (n < 1 || n > MOST_COMMANDS || script < 0 || lessGroups(script, n) != 0) {
            throw new IllegalArgumentException("n is not 1 to 4, or script has not 0 to 4 * n digits");
        }
        trial.becomeLike(state);
        for (int i = 0; i < n; i++) {
            int group = (int) (lessGroups(script, n - 1 - i) % 10000);
            if (!trial.obeyGroup(group)) {
                return i;
            }
        }
        return NONE;
    }

    public int simulate(long seed, int m) throws IllegalArgumentException {
        if (m < 1 || m > MOST_ROUNDS) {
            throw new IllegalArgumentException("m is not 1 to 99");
        }
        trial.becomeLike(state);
        long x = seed;
        for (int i = 0; i < m; i++) {
            x = x * 6364136223846793005L + 1442695040888963407L;
            trial.playRound((int) (x >>> 33));
        }
        if (!trial.on) {
            trial.switchOn();
        }
        int untold = trial.travelled - trial.distance;
        return 10000 * (trial.travelled - state.travelled) + Math.min(untold, FARTHEST);
    }

    // ---- save slots

    public int save(int slot) throws IndexOutOfBoundsException {
        if (slot < 0 || slot >= SAVE_SLOTS) {
            throw new IndexOutOfBoundsException("there is no such save slot");
        }
        saved.put(slot, state);
        return state.travelled;
    }

    public int restore(int slot) throws IndexOutOfBoundsException, IllegalStateException {
        if (slot < 0 || slot >= SAVE_SLOTS) {
            throw new IndexOutOfBoundsException("there is no such save slot");
        }
        if (!saved.isFull(slot)) {
            throw new IllegalStateException("nothing has been saved in it");
        }
        saved.take(slot, state);
        history.forgetAll();
        return state.travelled;
    }

    private int toldAfterCut(int n, int kind) {
        trial.becomeLike(state);
        trial.setCut(n, kind);
        trial.storeDistance();
        return trial.on ? trial.distance : trial.switchOn();
    }

    private static boolean isTenths(int tenths) {
        return tenths >= 1 && tenths <= MOST_TENTHS;
    }

    private static boolean isCut(int n, int kind) {
        return n >= 1 && n <= FARTHEST_CUT && kind >= 0 && kind <= LAST_CUT_KIND;
    }

    private static boolean isService(int kind, int part) {
        return kind >= 0 && kind <= 9 && part >= 0 && part <= 9;
    }

    private static boolean isStep(int step) {
        return step >= 1 && step <= MOST_STEP;
    }

    /** The script without its last groups of four digits. */
    private static long lessGroups(long script, int groups) {
        long rest = script;
        for (int i = 0; i < groups; i++) {
            rest /= 10000;
        }
        return rest;
    }

    /** The memory: what the cells hold, NONE for an unreadable one, and how worn they are. */
    private static final class Cells {
        int slots;
        int limit;
        private final int[] numbers = new int[MOST_SLOTS * CELLS];
        private final int[] wears = new int[MOST_SLOTS * CELLS];

        void makeNew(int newSlots, int newLimit) {
            slots = Math.min(newSlots, MOST_SLOTS);
            limit = newLimit;
            for (int slot = 0; slot < MOST_SLOTS; slot++) {
                renew(slot);
            }
        }

        void becomeLike(Cells other) {
            slots = other.slots;
            limit = other.limit;
            System.arraycopy(other.numbers, 0, numbers, 0, Math.min(other.numbers.length, numbers.length));
            System.arraycopy(other.wears, 0, wears, 0, Math.min(other.wears.length, wears.length));
        }

        boolean hasSlot(int slot) {
            return slot >= 0 && slot < slots;
        }

        int slotBehind(int slot) {
            return slot + 1 < slots ? slot + 1 : 0;
        }

        int numberIn(int slot, int i) {
            int at = slot * CELLS + i;
            return at >= 0 && at < numbers.length ? numbers[at] : NONE;
        }

        int wearOf(int slot, int i) {
            int at = slot * CELLS + i;
            return at >= 0 && at < wears.length ? wears[at] : 0;
        }

        boolean isStuck(int slot, int i) {
            return wearOf(slot, i) >= limit;
        }

        int wearOfSlot(int slot) {
            return wearOf(slot, 0) + wearOf(slot, 1) + wearOf(slot, 2);
        }

        /** The number that at least two of the slot's cells hold, or NONE. */
        int spokenBy(int slot) {
            int a = numberIn(slot, 0);
            int b = numberIn(slot, 1);
            int c = numberIn(slot, 2);
            return a == b || a == c ? a : b == c ? b : NONE;
        }

        int readableIn(int slot) {
            int readable = 0;
            for (int i = 0; i < CELLS; i++) {
                if (numberIn(slot, i) != NONE) {
                    readable++;
                }
            }
            return readable;
        }

        /** Gives the cell its wear and the number, unless it is stuck. */
        void write(int slot, int i, int number) {
            int at = slot * CELLS + i;
            if (at < 0 || at >= numbers.length || at >= wears.length || wears[at] >= limit) {
                return;
            }
            wears[at]++;
            numbers[at] = number;
        }

        int renew(int slot) {
            int worn = 0;
            for (int i = 0; i < CELLS; i++) {
                int at = slot * CELLS + i;
                if (at >= 0 && at < numbers.length && at < wears.length) {
                    worn += wears[at];
                    wears[at] = 0;
                    numbers[at] = 0;
                }
            }
            return worn;
        }

        /** The greatest wear of a cell less the least. */
        int wearGap() {
            int greatest = 0;
            int least = MOST_WEAR;
            for (int slot = 0; slot < slots; slot++) {
                for (int i = 0; i < CELLS; i++) {
                    greatest = Math.max(greatest, wearOf(slot, i));
                    least = Math.min(least, wearOf(slot, i));
                }
            }
            return greatest - least;
        }

        /** The first of the slots that say the greatest number, or NONE if all are silent. */
        int slotOfGreatest() {
            int found = NONE;
            int greatest = NONE;
            for (int slot = 0; slot < slots; slot++) {
                if (spokenBy(slot) > greatest) {
                    greatest = spokenBy(slot);
                    found = slot;
                }
            }
            return found;
        }
    }

    /** The services that are noted, the one that was done last at the end. */
    private static final class Services {
        int count;
        // A code is 10 * kind + part.
        private final int[] codes = new int[MOST_SERVICES];
        private final int[] noted = new int[MOST_SERVICES];

        void becomeLike(Services other) {
            count = other.count;
            System.arraycopy(other.codes, 0, codes, 0, Math.min(other.codes.length, codes.length));
            System.arraycopy(other.noted, 0, noted, 0, Math.min(other.noted.length, noted.length));
        }

        int codeAt(int place) {
            return place >= 0 && place < codes.length ? codes[place] : NONE;
        }

        int notedAt(int place) {
            return place >= 0 && place < noted.length ? noted[place] : NONE;
        }

        int placeOf(int kind, int part) {
            for (int place = 0; place < count; place++) {
                if (codeAt(place) == 10 * kind + part) {
                    return place;
                }
            }
            return NONE;
        }

        boolean hasRoomFor(int kind, int part) {
            return count < MOST_SERVICES || placeOf(kind, part) != NONE;
        }

        void addLast(int kind, int part, int distance) {
            put(count, 10 * kind + part, distance);
            count++;
        }

        /** Closes the gap behind it, and answers the distance that was noted. */
        int takeOut(int place) {
            int distance = notedAt(place);
            for (int next = place + 1; next < count; next++) {
                put(next - 1, codeAt(next), notedAt(next));
            }
            count--;
            return distance;
        }

        /** The first place with the smallest noted distance, or NONE if nothing is noted. */
        int placeOfSmallest() {
            int found = NONE;
            for (int place = 0; place < count; place++) {
                if (found == NONE || notedAt(place) < notedAt(found)) {
                    found = place;
                }
            }
            return found;
        }

        private void put(int place, int code, int distance) {
            if (place >= 0 && place < codes.length && place < noted.length) {
                codes[place] = code;
                noted[place] = distance;
            }
        }
    }

    /** The state: everything but the text, the remembered states and the save slots. */
    private static final class Odometer {
        final Cells cells = new Cells();
        final Services services = new Services();
        int step;
        boolean on;
        boolean dead;
        int distance;
        int stored;
        int current;
        int travelled;
        int writes;
        int cuts;
        // The cut falls on this one of the next writes; 0 if none is set.
        int cutIn;
        int cutKind;
        int lastSlot;
        int lastCell;
        int lastKind;
        int lastTried;

        Odometer() {
            makeNew(4, 10, 100);
        }

        void makeNew(int slots, int newStep, int limit) {
            cells.makeNew(slots, limit);
            services.count = 0;
            step = newStep;
            on = true;
            dead = false;
            distance = 0;
            stored = 0;
            current = 0;
            travelled = 0;
            writes = 0;
            cuts = 0;
            cutIn = 0;
            cutKind = NONE;
            lastSlot = NONE;
            lastCell = NONE;
            lastKind = NONE;
            lastTried = NONE;
        }

        void becomeLike(Odometer other) {
            cells.becomeLike(other.cells);
            services.becomeLike(other.services);
            step = other.step;
            on = other.on;
            dead = other.dead;
            distance = other.distance;
            stored = other.stored;
            current = other.current;
            travelled = other.travelled;
            writes = other.writes;
            cuts = other.cuts;
            cutIn = other.cutIn;
            cutKind = other.cutKind;
            lastSlot = other.lastSlot;
            lastCell = other.lastCell;
            lastKind = other.lastKind;
            lastTried = other.lastTried;
        }

        int tellOfDriving(int what) {
            switch (what) {
                case 0:
                    return cells.slots;
                case 1:
                    return step;
                case 2:
                    return cells.limit;
                case 3:
                    return on ? 1 : 0;
                case 4:
                    return on ? distance : NONE;
                case 5:
                    return travelled;
                case 6:
                    return on ? stored : NONE;
                case 7:
                    return on ? current : NONE;
                default:
                    return NONE;
            }
        }

        int tellOfMemory(int what) {
            switch (what) {
                case 8:
                    return writes;
                case 9:
                    return cuts;
                case 10:
                    return cutIn;
                case 11:
                    return cutIn == 0 ? NONE : cutKind;
                case 12:
                    return on && dead ? 1 : 0;
                case 13:
                    return cells.wearGap();
                case 14:
                    return services.count;
                default:
                    return NONE;
            }
        }

        /** Drives as far as the power is not cut, and answers how far that is. */
        int driveOn(int tenths) {
            int driven = 0;
            while (driven < tenths && on) {
                driven++;
                travelled++;
                distance++;
                if (!dead && distance >= stored + step) {
                    storeDistance();
                }
            }
            return driven;
        }

        /** Drives from one storing to the next, as nothing happens between; NONE if it is too far. */
        int driveTillDead() {
            int driven = 0;
            while (driven <= FARTHEST && !dead) {
                int next = Math.max(1, stored + step - distance);
                driven += next;
                distance += next;
                storeDistance();
            }
            return driven <= FARTHEST ? driven : NONE;
        }

        /** Tries the slots behind the current one till one says the distance or the power is cut. */
        void storeDistance() {
            int slot = current;
            for (int tried = 0; tried < cells.slots - 1; tried++) {
                slot = cells.slotBehind(slot);
                writeSlot(slot, tried);
                if (!on) {
                    return;
                }
                if (cells.spokenBy(slot) == distance) {
                    current = slot;
                    stored = distance;
                    return;
                }
            }
            dead = true;
        }

        private void writeSlot(int slot, int tried) {
            for (int i = 0; i < CELLS && on; i++) {
                writes++;
                if (cutIn == 1) {
                    cells.write(slot, i, leftByCut(cells.numberIn(slot, i)));
                    losePower(slot, i, tried);
                } else {
                    cutIn = Math.max(0, cutIn - 1);
                    cells.write(slot, i, distance);
                }
            }
        }

        /** What a cell holds when the cut falls on its write. */
        private int leftByCut(int before) {
            if (cutKind == 0) {
                return before;
            }
            return cutKind == 1 ? NONE : distance / 100 * 100;
        }

        private void losePower(int slot, int i, int tried) {
            on = false;
            lastSlot = slot;
            lastCell = i;
            lastKind = cutKind;
            lastTried = tried;
            cuts++;
            cutIn = 0;
            cutKind = NONE;
        }

        /** Believes the slot that says the greatest number, and answers the distance. */
        int switchOn() {
            int slot = cells.slotOfGreatest();
            current = slot == NONE ? 0 : slot;
            distance = slot == NONE ? 0 : cells.spokenBy(slot);
            stored = distance;
            dead = false;
            on = true;
            return distance;
        }

        /** Sets a cut, and answers on which write one was set before. */
        int setCut(int n, int kind) {
            int before = cutIn;
            cutIn = n;
            cutKind = kind;
            return before;
        }

        /** Notes the distance, and answers it less the one that was noted before. */
        int noteService(int kind, int part) {
            int place = services.placeOf(kind, part);
            int since = place == NONE ? NONE : distance - services.takeOut(place);
            services.addLast(kind, part, distance);
            return since;
        }

        boolean canReplace(int slot) {
            return on && cells.hasSlot(slot) && slot != current;
        }

        /** Does a command of a story; where its method would throw, it does nothing and tells false. */
        boolean obey(int letter, int first, int second) {
            switch (letter) {
                case 'd':
                    if (!on || !isTenths(first)) {
                        return false;
                    }
                    driveOn(first);
                    return true;
                case 'c':
                    if (!on || !isCut(first, second)) {
                        return false;
                    }
                    setCut(first, second);
                    return true;
                case 's':
                    if (on) {
                        return false;
                    }
                    switchOn();
                    return true;
                case 'm':
                    if (!on || !isService(first, second) || !services.hasRoomFor(first, second)) {
                        return false;
                    }
                    noteService(first, second);
                    return true;
                case 'r':
                    if (!canReplace(first)) {
                        return false;
                    }
                    cells.renew(first);
                    return true;
                default:
                    return false;
            }
        }

        /** Does a command of a script, and tells whether it succeeds. */
        boolean obeyGroup(int group) {
            int d2 = group / 100 % 10;
            int d3 = group / 10 % 10;
            int d4 = group % 10;
            switch (group / 1000) {
                case 1:
                    return obey('d', group % 1000, 0);
                case 2:
                    return d2 == 0 && obey('c', d3, d4);
                case 3:
                    return group == 3000 && obey('s', 0, 0);
                case 4:
                    return d4 == 0 && obey('m', d2, d3);
                case 5:
                    return on && distance >= group % 1000;
                case 6:
                    return d2 == 0 && takeStep(group % 100);
                case 7:
                    return group % 100 == 0 && cells.hasSlot(d2) && cells.spokenBy(d2) != NONE;
                case 8:
                    return d2 == 0 && cells.wearGap() <= group % 100;
                case 9:
                    return group % 100 == 0 && obey('r', d2, 0);
                default:
                    return false;
            }
        }

        private boolean takeStep(int newStep) {
            if (!isStep(newStep)) {
                return false;
            }
            step = newStep;
            return true;
        }

        /** Plays a round of a simulation, as the number r tells. */
        void playRound(int r) {
            if (!on) {
                switchOn();
            }
            if (r % 4 == 0) {
                setCut(1 + r / 4 % 9, r / 64 % 3);
            }
            driveOn(1 + r / 256 % 50);
        }
    }

    /** A row of states, made once and used again and again. */
    private static final class Shelf {
        private final Odometer[] states;
        private final boolean[] full;

        Shelf(int places) {
            int length = Math.max(0, places);
            states = new Odometer[length];
            full = new boolean[length];
            for (int i = 0; i < states.length; i++) {
                states[i] = new Odometer();
            }
        }

        boolean isFull(int place) {
            return place >= 0 && place < full.length && full[place];
        }

        void emptyAll() {
            for (int i = 0; i < full.length; i++) {
                full[i] = false;
            }
        }

        void put(int place, Odometer state) {
            if (place < 0 || place >= states.length || place >= full.length) {
                return;
            }
            Odometer kept = states[place];
            if (kept != null) {
                kept.becomeLike(state);
                full[place] = true;
            }
        }

        void take(int place, Odometer into) {
            if (place < 0 || place >= states.length) {
                return;
            }
            Odometer kept = states[place];
            if (kept != null) {
                into.becomeLike(kept);
            }
        }
    }

    /** The remembered states, in a ring in which the newest takes the place of the oldest. */
    private static final class History {
        int count;
        private int next;
        private final Shelf shelf = new Shelf(MOST_REMEMBERED);

        void remember(Odometer state) {
            shelf.put(next, state);
            next = (next + 1) % MOST_REMEMBERED;
            count = Math.min(count + 1, MOST_REMEMBERED);
        }

        /** Makes the state as it was, and answers how many are still remembered. */
        int takeBack(Odometer state) {
            next = (next + MOST_REMEMBERED - 1) % MOST_REMEMBERED;
            shelf.take(next, state);
            count--;
            return count;
        }

        void forgetAll() {
            count = 0;
        }
    }

    /** The text, and what was read of it last: the numbers of its head, a command. */
    private static final class Story {
        int length;
        int slots;
        int step;
        int limit;
        int letter;
        int first;
        int second;
        private int cursor;
        private final int[] signs = new int[MOST_SIGNS];

        int add(int sign) {
            if (length >= 0 && length < signs.length) {
                signs[length] = sign;
                length++;
            }
            return length;
        }

        int empty() {
            int previous = length;
            length = 0;
            return previous;
        }

        /** The error position, or NONE if the text is a story. */
        int errorAt() {
            if (!readHead()) {
                return cursor;
            }
            for (int i = 0; i < MOST_SIGNS && !isAtEnd(); i++) {
                if (!readCommand()) {
                    return cursor;
                }
            }
            return NONE;
        }

        boolean isAtEnd() {
            return cursor >= length;
        }

        /** Reads the head from the beginning; if it is wrong, the cursor stands at the error then. */
        boolean readHead() {
            cursor = 0;
            if (signHere() != 'O') {
                return false;
            }
            cursor++;
            slots = readNumber(2, 3, MOST_SLOTS);
            step = slots == NONE ? NONE : readNumber(2, 1, MOST_STEP);
            limit = step == NONE ? NONE : readNumber(3, 10, MOST_WEAR);
            return limit != NONE;
        }

        /** Reads the next command; if it is wrong, the cursor stands at the error then. */
        boolean readCommand() {
            letter = signHere();
            first = 0;
            second = 0;
            switch (letter) {
                case 'd':
                    cursor++;
                    first = readNumber(3, 1, MOST_TENTHS);
                    break;
                case 'c':
                    cursor++;
                    first = readNumber(2, 1, FARTHEST_CUT);
                    second = first == NONE ? NONE : readNumber(1, 0, LAST_CUT_KIND);
                    break;
                case 's':
                    cursor++;
                    break;
                case 'm':
                    cursor++;
                    first = readNumber(1, 0, 9);
                    second = first == NONE ? NONE : readNumber(1, 0, 9);
                    break;
                case 'r':
                    cursor++;
                    first = readNumber(2, 0, slots - 1);
                    break;
                default:
                    return false;
            }
            return first != NONE && second != NONE;
        }

        /** Reads a number digit by digit; NONE, and the cursor at the wrong sign, if it is not least to most. */
        private int readNumber(int digits, int least, int most) {
            int span = 1;
            for (int i = 0; i < digits; i++) {
                span *= 10;
            }
            int number = 0;
            for (int i = 0; i < digits; i++) {
                // The numbers that begin with the digits so far are span many, from this one on.
                span /= 10;
                int digit = signHere() - '0';
                int from = number + digit * span;
                if (digit < 0 || digit > 9 || from > most || from + span <= least) {
                    return NONE;
                }
                number = from;
                cursor++;
            }
            return number;
        }

        private int signHere() {
            return cursor >= 0 && cursor < length && cursor < signs.length ? signs[cursor] : NONE;
        }
    }
}
