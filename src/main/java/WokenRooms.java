/**
 * Power rooms on a chip: rooms that sleep, wake, idle and are used, their rails, planned uses,
 * energies, forecasts, a history, and orders as texts. The numbered promises that it keeps are
 * those of the document DOC.md.
 */
public final class WokenRooms {
    /** An argument is out of its range, or there is no such room, rail or planned use. */
    public static final int INVALID_ARGUMENT = -1;
    /** The call is not possible in the present state. */
    public static final int NOT_POSSIBLE = -2;
    /** A fixed limit has been reached. */
    public static final int LIMIT_REACHED = -3;
    /** There is no such value. */
    public static final int NOT_FOUND = -4;

    private static final int NONE = -1;

    private static final int MAX_ROOMS = 8;
    private static final int RAILS = 2;
    private static final int PLACES = 4;
    private static final int MAX_USES = 12;
    private static final int MAX_LENGTH = 50;
    private static final int MAX_TIME = 50000;
    private static final int MAX_TICKS = 200;
    private static final int MAX_WAIT = 300;
    private static final int MAX_BEST_TIME_OUT = 20;
    private static final int MAX_HISTORY = 4;
    private static final int MAX_TEXT = 60;
    private static final int MAX_DIGITS = 3;

    // The states of a room.
    private static final int ASLEEP = 0;
    private static final int WAKING = 1;
    private static final int AWAKE = 2;
    private static final int IN_USE = 3;

    // The guesses of a room.
    private static final int GUESS_BY_PLAN = 1;
    private static final int GUESS_BY_GAP = 2;

    // What a room costs, by the numbers of costOf.
    private static final int WAKE_COST = 0;
    private static final int WAKE_TIME = 1;
    private static final int TICK_IN_USE = 2;
    private static final int TICK_AWAKE = 3;
    private static final int TICK_ASLEEP = 4;
    private static final int COSTS = 5;

    // What a room has paid for, by the numbers of energy.
    private static final int FOR_WAKING = 0;
    private static final int FOR_IN_USE = 1;
    private static final int FOR_AWAKE = 2;
    private static final int FOR_ASLEEP = 3;
    private static final int PAYMENTS = 4;

    // The reasons of a fault.
    private static final int NO_FAULT = 0;
    private static final int BAD_FORM = 1;
    private static final int REFUSED = 2;

    private final Chip chip;
    private final Chip trial;
    // One more than the history may hold: a change is noted there before it is known to succeed.
    private final Chip[] history;
    private int historySize;
    private final Orders orders;

    /** Creates a chip without rooms, at the time 0. */
    public WokenRooms() {
        chip = new Chip();
        trial = new Chip();
        history = new Chip[MAX_HISTORY + 1];
        for (int i = 0; i < history.length; i++) {
            history[i] = new Chip();
        }
        orders = new Orders();
    }

    // ---- rooms, rails

    /** Adds a room, and returns its number. */
    public int room(int kind, int wakeCost, int wakeTime, int inUse, int awake, int asleep) {
        if (outside(kind, 0, RAILS - 1) || outside(wakeCost, 0, 500) || outside(wakeTime, 1, 20)
                || outside(inUse, 1, 50) || outside(awake, 0, 50) || outside(asleep, 0, 20)) {
            return INVALID_ARGUMENT;
        }
        if (chip.roomCount >= MAX_ROOMS) {
            return LIMIT_REACHED;
        }
        note();
        Room added = chip.rooms[chip.roomCount];
        added.startAnew(kind);
        added.costs[WAKE_COST] = wakeCost;
        added.costs[WAKE_TIME] = wakeTime;
        added.costs[TICK_IN_USE] = inUse;
        added.costs[TICK_AWAKE] = awake;
        added.costs[TICK_ASLEEP] = asleep;
        chip.roomCount++;
        return kept(chip.roomCount - 1);
    }

    /** Lets a room need another one, and returns the one before, plus 1. */
    public int need(int room, int other) {
        note();
        return kept(chip.setNeed(room, other));
    }

    /** Plugs a room into a rail, and returns how many rooms are plugged there. */
    public int plug(int room, int rail) {
        note();
        return kept(chip.plugIn(room, rail));
    }

    /** Takes a room out of its rail, and returns how many rooms are left there. */
    public int unplug(int room) {
        note();
        return kept(chip.plugOut(room));
    }

    /** Sets the limit of a rail, and returns the one before. */
    public int limit(int rail, int rooms) {
        note();
        return kept(chip.setLimit(rail, rooms));
    }

    /** Sets the time-out and the guess of a room, and returns 10 times the time-out plus the guess before. */
    public int policy(int room, int timeOut, int guess) {
        note();
        return kept(chip.setPolicy(room, timeOut, guess));
    }

    /** Returns something of a room. */
    public int roomOf(int room, int what) {
        if (!chip.hasRoom(room) || outside(what, 0, 13)) {
            return INVALID_ARGUMENT;
        }
        if (what == 8) {
            return chip.usesOf(room);
        }
        if (what == 12) {
            return chip.isCalled(room) ? 1 : 0;
        }
        return chip.rooms[room].tell(what);
    }

    /** Returns what a room costs. */
    public int costOf(int room, int what) {
        if (!chip.hasRoom(room) || outside(what, 0, COSTS - 1)) {
            return INVALID_ARGUMENT;
        }
        return chip.rooms[room].costs[what];
    }

    /** Returns the room that is plugged into a rail at an index. */
    public int pluggedAt(int rail, int index) {
        if (outside(rail, 0, RAILS - 1) || index < 0) {
            return INVALID_ARGUMENT;
        }
        return chip.roomOnRail(rail, index);
    }

    // ---- uses

    /** Plans a use, and returns how many are planned. */
    public int use(int room, int time, int length) {
        note();
        return kept(chip.planUse(room, time, length));
    }

    /** Returns something of a planned use. */
    public int useOf(int number, int what) {
        if (!chip.hasUse(number) || outside(what, 0, 3)) {
            return INVALID_ARGUMENT;
        }
        switch (what) {
            case 0:
                return chip.useRooms[number];
            case 1:
                return chip.useTimes[number];
            case 2:
                return chip.useLengths[number];
            default:
                return chip.firstUseOf(chip.useRooms[number]) == number ? 1 : 0;
        }
    }

    /** Drops a planned use, and returns its room. */
    public int drop(int number) {
        note();
        return kept(chip.dropUse(number));
    }

    // ---- waking, sleeping, ticks

    /** Wakes a room, and returns the ticks that it takes. */
    public int wake(int room) {
        note();
        return kept(chip.wakeRoom(room));
    }

    /** Lets a room fall asleep, and returns the ticks that it has idled. */
    public int sleep(int room) {
        note();
        return kept(chip.sendToSleep(room));
    }

    /** Lets ticks go by, and returns how many uses begin in them. */
    public int tick(int ticks) {
        note();
        return kept(chip.letTicksGoBy(ticks));
    }

    // ---- energy, shares

    /** Returns the energy that a room has paid so far. */
    public int energy(int room, int what) {
        if (!chip.hasRoom(room) || outside(what, 0, PAYMENTS)) {
            return INVALID_ARGUMENT;
        }
        Room payer = chip.rooms[room];
        return what == PAYMENTS ? payer.paidInAll() : payer.paid[what];
    }

    /** Returns the bits of the share of all that was paid which was paid in use. */
    public int shareBits() {
        int all = chip.paidInAll();
        if (all <= 0) {
            return NOT_FOUND;
        }
        return bitsOf((float) ((double) chip.paidInUse() / (double) all));
    }

    /** Returns the bits of the mean lateness of a room. */
    public int lateBits(int room) {
        if (!chip.hasRoom(room)) {
            return INVALID_ARGUMENT;
        }
        int begun = chip.rooms[room].begun;
        if (begun <= 0) {
            return NOT_FOUND;
        }
        return bitsOf((float) chip.rooms[room].late / (float) begun);
    }

    /** Returns the bits of the ticks behind which sleeping is worth while. */
    public int worthBits(int room) {
        if (!chip.hasRoom(room)) {
            return INVALID_ARGUMENT;
        }
        int[] costs = chip.rooms[room].costs;
        int saved = costs[TICK_AWAKE] - costs[TICK_ASLEEP];
        if (saved <= 0) {
            return NOT_FOUND;
        }
        return bitsOf((float) costs[WAKE_COST] / (float) saved);
    }

    /** Returns a number. */
    public int count(int what) {
        switch (what) {
            case 10:
                return historySize;
            case 11:
                return orders.length;
            case 20:
                return chip.limits[0];
            case 21:
                return chip.limits[1];
            default:
                return outside(what, 0, 9) ? INVALID_ARGUMENT : chip.tell(what);
        }
    }

    // ---- what would be, which changes nothing

    /** Tells what would be paid, or be late, in the next ticks. */
    public int ahead(int ticks, int what) {
        if (outside(ticks, 1, MAX_TICKS) || outside(what, 0, 2)) {
            return INVALID_ARGUMENT;
        }
        trial.copyFrom(chip);
        trial.passTicks(ticks);
        switch (what) {
            case 0:
                return trial.paidInAll() - chip.paidInAll();
            case 1:
                return trial.lateInAll() - chip.lateInAll();
            default:
                return trial.begunInAll() - chip.begunInAll();
        }
    }

    /** Finds the time-out of a room by which all rooms would pay least in the next ticks. */
    public int bestTimeOut(int room, int ticks, int what) {
        if (!chip.hasRoom(room) || outside(ticks, 1, MAX_TICKS) || outside(what, 0, 1)) {
            return INVALID_ARGUMENT;
        }
        int best = 0;
        int least = paidWithTimeOut(room, 0, ticks);
        for (int timeOut = 1; timeOut <= MAX_BEST_TIME_OUT; timeOut++) {
            int paid = paidWithTimeOut(room, timeOut, ticks);
            if (paid < least) {
                best = timeOut;
                least = paid;
            }
        }
        return what == 0 ? best : least;
    }

    /** Tells in how many ticks the first use of a room would begin. */
    public int beginsIn(int room) {
        if (!chip.hasRoom(room)) {
            return INVALID_ARGUMENT;
        }
        if (chip.firstUseOf(room) == NONE) {
            return NOT_FOUND;
        }
        trial.copyFrom(chip);
        int begun = chip.rooms[room].begun;
        for (int ticks = 0; ticks < MAX_WAIT; ticks++) {
            trial.passTick();
            if (trial.rooms[room].begun > begun) {
                return ticks;
            }
        }
        return NOT_FOUND;
    }

    /** Restores the latest state of the history, and returns how many are left in it. */
    public int undo() {
        if (historySize <= 0) {
            return NOT_POSSIBLE;
        }
        historySize--;
        chip.copyFrom(history[historySize]);
        return historySize;
    }

    // ---- texts

    /** Appends a character to the text, and returns its length. */
    public int type(int character) {
        if (outside(character, 32, 126)) {
            return INVALID_ARGUMENT;
        }
        if (orders.length >= MAX_TEXT) {
            return LIMIT_REACHED;
        }
        return orders.append((char) character);
    }

    /** Empties the text, and returns the length it had. */
    public int clearText() {
        return orders.empty();
    }

    /** Tells about the fault of the text. */
    public int fault(int what) {
        if (outside(what, 0, 2)) {
            return INVALID_ARGUMENT;
        }
        orders.tryOn(trial, chip);
        if (orders.reason == NO_FAULT || what == 2 && orders.reason == BAD_FORM) {
            return NOT_FOUND;
        }
        switch (what) {
            case 0:
                return orders.faultAt;
            case 1:
                return orders.reason;
            default:
                return orders.cause;
        }
    }

    /** Does all orders of the text, and returns how many there are. */
    public int play() {
        orders.tryOn(trial, chip);
        if (orders.reason != NO_FAULT) {
            return NOT_POSSIBLE;
        }
        note();
        chip.copyFrom(trial);
        return kept(orders.done);
    }

    // ---- help for the calls above

    private static boolean outside(int number, int lowest, int highest) {
        return number < lowest || number > highest;
    }

    /** Notes the present state behind the history, where it does not count yet. */
    private void note() {
        if (historySize < history.length) {
            history[historySize].copyFrom(chip);
        }
    }

    /** Takes the noted state into the history if the answer is no error; returns the answer. */
    private int kept(int answer) {
        if (answer < 0) {
            return answer;
        }
        historySize++;
        if (historySize > MAX_HISTORY) {
            dropOldest();
        }
        return answer;
    }

    private void dropOldest() {
        Chip oldest = history[0];
        for (int i = 0; i < MAX_HISTORY; i++) {
            history[i] = history[i + 1];
        }
        history[MAX_HISTORY] = oldest;
        historySize = MAX_HISTORY;
    }

    private int paidWithTimeOut(int room, int timeOut, int ticks) {
        trial.copyFrom(chip);
        trial.rooms[room].timeOut = timeOut;
        trial.passTicks(ticks);
        return trial.paidInAll() - chip.paidInAll();
    }

    /** The bits of a float that is 0 or a normal one above: the library's own call is ruled out. */
    private static int bitsOf(float number) {
        if (!(number > 0)) {
            return 0;
        }
        float rest = number;
        int exponent = 127;
        for (int i = 0; i < 127 && rest >= 2; i++) {
            rest = rest / 2;
            exponent++;
        }
        for (int i = 0; i < 126 && rest < 1; i++) {
            rest = rest * 2;
            exponent--;
        }
        return exponent << 23 | (int) ((rest - 1) * (1 << 23));
    }

    /** A room: what it costs, its settings, its state, and its accounts. */
    private static final class Room {
        final int[] costs = new int[COSTS];
        final int[] paid = new int[PAYMENTS];
        int kind;
        int needed;
        int rail;
        int timeOut;
        int guess;
        int state;
        // The ticks left count only while it is waking or in use, those idled only while it is awake.
        int left;
        int idled;
        int begun;
        int late;
        int woken;
        int latestEnd;
        int gap;

        /** Makes it a new room, with nothing of an undone one at its number; its costs are set next. */
        void startAnew(int newKind) {
            for (int i = 0; i < PAYMENTS; i++) {
                paid[i] = 0;
            }
            kind = newKind;
            needed = NONE;
            rail = NONE;
            timeOut = 0;
            guess = 0;
            state = ASLEEP;
            left = 0;
            idled = 0;
            begun = 0;
            late = 0;
            woken = 0;
            latestEnd = 0;
            gap = 0;
        }

        void copyFrom(Room other) {
            System.arraycopy(other.costs, 0, costs, 0, COSTS);
            System.arraycopy(other.paid, 0, paid, 0, PAYMENTS);
            kind = other.kind;
            needed = other.needed;
            rail = other.rail;
            timeOut = other.timeOut;
            guess = other.guess;
            state = other.state;
            left = other.left;
            idled = other.idled;
            begun = other.begun;
            late = other.late;
            woken = other.woken;
            latestEnd = other.latestEnd;
            gap = other.gap;
        }

        /** Answers the numbers of roomOf that the room itself knows. */
        int tell(int what) {
            switch (what) {
                case 0:
                    return kind;
                case 1:
                    return state;
                case 2:
                    return needed == NONE ? NOT_FOUND : needed;
                case 3:
                    return rail == NONE ? NOT_FOUND : rail;
                case 4:
                    return state == WAKING || state == IN_USE ? left : 0;
                case 5:
                    return state == AWAKE ? idled : 0;
                case 6:
                    return timeOut;
                case 7:
                    return guess;
                case 9:
                    return begun;
                case 10:
                    return late;
                case 11:
                    return woken;
                default:
                    return begun < 2 ? NOT_FOUND : gap;
            }
        }

        int paidInAll() {
            return paid[FOR_WAKING] + paid[FOR_IN_USE] + paid[FOR_AWAKE] + paid[FOR_ASLEEP];
        }

        void startWaking() {
            paid[FOR_WAKING] += costs[WAKE_COST];
            state = WAKING;
            left = costs[WAKE_TIME];
            woken++;
        }

        void begin(int now, int due, int length) {
            if (begun > 0) {
                gap = now - latestEnd;
            }
            latestEnd = now + length;
            begun++;
            late += now - due;
            state = IN_USE;
            left = length;
        }

        /** Whether this time is that of the guess 2. */
        boolean isGuessedByGap(int now) {
            return guess == GUESS_BY_GAP && begun >= 2 && state != IN_USE
                    && now == latestEnd + gap - costs[WAKE_TIME];
        }

        void payForTick() {
            switch (state) {
                case ASLEEP:
                    paid[FOR_ASLEEP] += costs[TICK_ASLEEP];
                    break;
                case AWAKE:
                    paid[FOR_AWAKE] += costs[TICK_AWAKE];
                    break;
                case IN_USE:
                    paid[FOR_IN_USE] += costs[TICK_IN_USE];
                    break;
                default:
                    break;
            }
        }

        /** One tick of waking or of a use goes by. */
        void workOn() {
            left--;
            if (left <= 0) {
                state = AWAKE;
                idled = 0;
            }
        }

        boolean isTimedOut() {
            return timeOut > 0 && idled >= timeOut;
        }
    }

    /** All that a change can change: rooms, rails, planned uses and the time. */
    private static final class Chip {
        final Room[] rooms = new Room[MAX_ROOMS];
        int roomCount;
        final int[] limits = new int[RAILS];
        // The planned uses, in the order in which they were planned.
        final int[] useRooms = new int[MAX_USES];
        final int[] useTimes = new int[MAX_USES];
        final int[] useLengths = new int[MAX_USES];
        int useCount;
        int time;

        Chip() {
            for (int i = 0; i < MAX_ROOMS; i++) {
                rooms[i] = new Room();
            }
            for (int i = 0; i < RAILS; i++) {
                limits[i] = 2;
            }
        }

        void copyFrom(Chip other) {
            for (int i = 0; i < other.roomCount; i++) {
                rooms[i].copyFrom(other.rooms[i]);
            }
            roomCount = other.roomCount;
            System.arraycopy(other.limits, 0, limits, 0, RAILS);
            System.arraycopy(other.useRooms, 0, useRooms, 0, MAX_USES);
            System.arraycopy(other.useTimes, 0, useTimes, 0, MAX_USES);
            System.arraycopy(other.useLengths, 0, useLengths, 0, MAX_USES);
            useCount = other.useCount;
            time = other.time;
        }

        boolean hasRoom(int number) {
            return number >= 0 && number < roomCount;
        }

        boolean hasUse(int number) {
            return number >= 0 && number < useCount;
        }

        /** Answers the numbers of count that the chip itself knows. */
        int tell(int what) {
            switch (what) {
                case 0:
                    return roomCount;
                case 1:
                    return useCount;
                case 2:
                    return time;
                case 3:
                    return roomsIn(ASLEEP);
                case 4:
                    return roomsIn(WAKING);
                case 5:
                    return roomsIn(AWAKE);
                case 6:
                    return roomsIn(IN_USE);
                case 7:
                    return paidInAll();
                case 8:
                    return begunInAll();
                default:
                    return lateInAll();
            }
        }

        int roomsIn(int state) {
            int found = 0;
            for (int i = 0; i < roomCount; i++) {
                if (rooms[i].state == state) {
                    found++;
                }
            }
            return found;
        }

        int paidInAll() {
            int sum = 0;
            for (int i = 0; i < roomCount; i++) {
                sum += rooms[i].paidInAll();
            }
            return sum;
        }

        int paidInUse() {
            int sum = 0;
            for (int i = 0; i < roomCount; i++) {
                sum += rooms[i].paid[FOR_IN_USE];
            }
            return sum;
        }

        int begunInAll() {
            int sum = 0;
            for (int i = 0; i < roomCount; i++) {
                sum += rooms[i].begun;
            }
            return sum;
        }

        int lateInAll() {
            int sum = 0;
            for (int i = 0; i < roomCount; i++) {
                sum += rooms[i].late;
            }
            return sum;
        }

        int setNeed(int number, int other) {
            if (!hasRoom(number) || outside(other, NONE, number - 1)) {
                return INVALID_ARGUMENT;
            }
            Room room = rooms[number];
            if (room.state != ASLEEP) {
                return NOT_POSSIBLE;
            }
            int before = room.needed;
            room.needed = other;
            return before + 1;
        }

        int plugIn(int number, int rail) {
            if (!hasRoom(number) || outside(rail, 0, RAILS - 1)) {
                return INVALID_ARGUMENT;
            }
            Room room = rooms[number];
            if (room.rail != NONE || room.kind != rail) {
                return NOT_POSSIBLE;
            }
            if (pluggedInto(rail) >= PLACES) {
                return LIMIT_REACHED;
            }
            room.rail = rail;
            return pluggedInto(rail);
        }

        int plugOut(int number) {
            if (!hasRoom(number)) {
                return INVALID_ARGUMENT;
            }
            Room room = rooms[number];
            if (room.rail == NONE || room.state != ASLEEP) {
                return NOT_POSSIBLE;
            }
            int rail = room.rail;
            room.rail = NONE;
            return pluggedInto(rail);
        }

        int pluggedInto(int rail) {
            int plugged = 0;
            for (int i = 0; i < roomCount; i++) {
                if (rooms[i].rail == rail) {
                    plugged++;
                }
            }
            return plugged;
        }

        int roomOnRail(int rail, int index) {
            int ahead = 0;
            for (int i = 0; i < roomCount; i++) {
                if (rooms[i].rail == rail) {
                    if (ahead == index) {
                        return i;
                    }
                    ahead++;
                }
            }
            return NOT_FOUND;
        }

        int setLimit(int rail, int most) {
            if (outside(rail, 0, RAILS - 1) || outside(most, 1, PLACES)) {
                return INVALID_ARGUMENT;
            }
            int before = limits[rail];
            limits[rail] = most;
            return before;
        }

        int setPolicy(int number, int timeOut, int guess) {
            if (!hasRoom(number) || outside(timeOut, 0, 99) || outside(guess, 0, GUESS_BY_GAP)) {
                return INVALID_ARGUMENT;
            }
            Room room = rooms[number];
            int before = 10 * room.timeOut + room.guess;
            room.timeOut = timeOut;
            room.guess = guess;
            return before;
        }

        int planUse(int number, int due, int length) {
            if (!hasRoom(number) || outside(due, time, MAX_TIME) || outside(length, 1, MAX_LENGTH)) {
                return INVALID_ARGUMENT;
            }
            if (useCount >= MAX_USES) {
                return LIMIT_REACHED;
            }
            useRooms[useCount] = number;
            useTimes[useCount] = due;
            useLengths[useCount] = length;
            useCount++;
            return useCount;
        }

        int dropUse(int use) {
            if (!hasUse(use)) {
                return INVALID_ARGUMENT;
            }
            int number = useRooms[use];
            removeUse(use);
            return number;
        }

        void removeUse(int use) {
            for (int i = use; i + 1 < useCount; i++) {
                useRooms[i] = useRooms[i + 1];
                useTimes[i] = useTimes[i + 1];
                useLengths[i] = useLengths[i + 1];
            }
            useCount--;
        }

        int usesOf(int number) {
            int found = 0;
            for (int i = 0; i < useCount; i++) {
                if (useRooms[i] == number) {
                    found++;
                }
            }
            return found;
        }

        /** The use of a room that is due earliest, of several the one planned first; NONE if it has none. */
        int firstUseOf(int number) {
            int first = NONE;
            int earliest = 0;
            for (int i = 0; i < useCount; i++) {
                if (useRooms[i] == number && (first == NONE || useTimes[i] < earliest)) {
                    first = i;
                    earliest = useTimes[i];
                }
            }
            return first;
        }

        boolean isCalled(int number) {
            Room room = rooms[number];
            int first = firstUseOf(number);
            if (hasUse(first)) {
                int notice = room.guess == GUESS_BY_PLAN ? room.costs[WAKE_TIME] : 0;
                if (useTimes[first] - notice <= time) {
                    return true;
                }
            }
            return room.isGuessedByGap(time);
        }

        boolean isReady(int number) {
            int needed = rooms[number].needed;
            if (needed < 0 || needed >= roomCount) {
                return true;
            }
            return rooms[needed].state == AWAKE || rooms[needed].state == IN_USE;
        }

        /** Whether the room is plugged into a rail on which fewer rooms are waking than its limit tells. */
        boolean railLetsWake(int number) {
            int rail = rooms[number].rail;
            if (rail < 0 || rail >= RAILS) {
                return false;
            }
            int waking = 0;
            for (int i = 0; i < roomCount; i++) {
                if (rooms[i].rail == rail && rooms[i].state == WAKING) {
                    waking++;
                }
            }
            return waking < limits[rail];
        }

        boolean hasDependentsUp(int number) {
            for (int i = 0; i < roomCount; i++) {
                if (rooms[i].needed == number && rooms[i].state != ASLEEP) {
                    return true;
                }
            }
            return false;
        }

        int wakeRoom(int number) {
            if (!hasRoom(number)) {
                return INVALID_ARGUMENT;
            }
            Room room = rooms[number];
            if (room.state != ASLEEP || !isReady(number) || !railLetsWake(number)) {
                return NOT_POSSIBLE;
            }
            room.startWaking();
            return room.costs[WAKE_TIME];
        }

        int sendToSleep(int number) {
            if (!hasRoom(number)) {
                return INVALID_ARGUMENT;
            }
            Room room = rooms[number];
            if (room.state != AWAKE || hasDependentsUp(number)) {
                return NOT_POSSIBLE;
            }
            room.state = ASLEEP;
            return room.idled;
        }

        int letTicksGoBy(int ticks) {
            if (outside(ticks, 1, MAX_TICKS)) {
                return INVALID_ARGUMENT;
            }
            if (time + ticks > MAX_TIME) {
                return LIMIT_REACHED;
            }
            int begunBefore = begunInAll();
            // A loop of its own, since calls through texts are deep here already (LANGUAGE.md, rule 11).
            for (int i = 0; i < ticks; i++) {
                passTick();
            }
            return begunInAll() - begunBefore;
        }

        void passTicks(int ticks) {
            for (int i = 0; i < ticks; i++) {
                passTick();
            }
        }

        /** One tick, in the document's steps: all rooms take a step before the next one is taken. */
        void passTick() {
            for (int i = 0; i < roomCount; i++) {
                if (rooms[i].state == ASLEEP && isCalled(i)) {
                    wakeIfPossible(soughtFor(i));
                }
                beginDueUse(i);
            }
            for (int i = 0; i < roomCount; i++) {
                rooms[i].payForTick();
            }
            for (int i = 0; i < roomCount; i++) {
                goOn(i);
            }
            time++;
        }

        /** The room to wake for an asleep one: itself, or the next asleep one down its needs that is ready. */
        int soughtFor(int number) {
            int sought = number;
            for (int links = 0; links < MAX_ROOMS && hasRoom(sought); links++) {
                if (rooms[sought].state != ASLEEP) {
                    return NONE;
                }
                if (isReady(sought)) {
                    return sought;
                }
                sought = rooms[sought].needed;
            }
            return NONE;
        }

        void wakeIfPossible(int sought) {
            if (hasRoom(sought) && railLetsWake(sought)) {
                rooms[sought].startWaking();
            }
        }

        void beginDueUse(int number) {
            if (rooms[number].state != AWAKE) {
                return;
            }
            int first = firstUseOf(number);
            if (hasUse(first) && useTimes[first] <= time) {
                rooms[number].begin(time, useTimes[first], useLengths[first]);
                removeUse(first);
            }
        }

        void goOn(int number) {
            Room room = rooms[number];
            if (room.state == WAKING || room.state == IN_USE) {
                room.workOn();
            } else if (room.state == AWAKE) {
                room.idled++;
                if (room.isTimedOut() && !hasDependentsUp(number)) {
                    room.state = ASLEEP;
                }
            }
        }
    }

    /** The text, the reading of its orders one by one, and what was found when it was last run. */
    private static final class Orders {
        final char[] signs = new char[MAX_TEXT];
        int length;
        // The order that was read last.
        int next;
        char letter;
        final int[] numbers = new int[3];
        // What the last run found.
        int done;
        int faultAt;
        int reason;
        int cause;

        int append(char sign) {
            if (length < MAX_TEXT) {
                signs[length] = sign;
                length++;
            }
            return length;
        }

        int empty() {
            int before = length;
            length = 0;
            return before;
        }

        /** Does the orders on a trial of the chip, up to the first one that is not possible. */
        void tryOn(Chip trial, Chip chip) {
            trial.copyFrom(chip);
            next = 0;
            done = 0;
            reason = NO_FAULT;
            for (int i = 0; i < MAX_TEXT && next < length; i++) {
                int start = next;
                if (!readOrder()) {
                    setFault(start, BAD_FORM, 0);
                    return;
                }
                int answer = perform(trial);
                if (answer < 0) {
                    setFault(start, REFUSED, answer);
                    return;
                }
                done++;
            }
        }

        void setFault(int newPlace, int newReason, int newCause) {
            faultAt = newPlace;
            reason = newReason;
            cause = newCause;
        }

        int perform(Chip chip) {
            switch (letter) {
                case 'u':
                    return chip.planUse(numbers[0], chip.time + numbers[1], numbers[2]);
                case 'w':
                    return chip.wakeRoom(numbers[0]);
                case 's':
                    return chip.sendToSleep(numbers[0]);
                default:
                    return chip.letTicksGoBy(numbers[0]);
            }
        }

        /** Reads the order at the next sign; answers false if none of the right form stands there. */
        boolean readOrder() {
            letter = takeSign();
            if (letter != 'u' && letter != 'w' && letter != 's' && letter != 't') {
                return false;
            }
            int wanted = letter == 'u' ? numbers.length : 1;
            for (int i = 0; i < wanted; i++) {
                if (i > 0 && takeSign() != ',') {
                    return false;
                }
                int number = takeNumber();
                if (number < 0) {
                    return false;
                }
                numbers[i] = number;
            }
            return takeSign() == ';';
        }

        /** Takes the next sign; behind the end of the text this is the character 0, which none can type. */
        char takeSign() {
            if (next >= length) {
                return (char) 0;
            }
            next++;
            return signs[next - 1];
        }

        boolean isDigitNext() {
            return next < length && signs[next] >= '0' && signs[next] <= '9';
        }

        /** Takes a number of up to 3 digits; NONE if no digit stands there. */
        int takeNumber() {
            if (!isDigitNext()) {
                return NONE;
            }
            int number = 0;
            for (int digits = 0; digits < MAX_DIGITS && isDigitNext(); digits++) {
                number = 10 * number + (takeSign() - '0');
            }
            return number;
        }
    }
}
