/** The sentences of "A tick" in the document's terms, each at its boundaries. */
public final class TickTermsTest {
    private static final int ASLEEP = Chips.ASLEEP;
    private static final int WAKING = Chips.WAKING;
    private static final int AWAKE = Chips.AWAKE;
    private static final int IN_USE = Chips.IN_USE;

    public static void main(String[] args) {
        roomsByNumber();
        aLowerRoomIsSoughtByAHigherOne();
        aChainOfEight();
        theNeededOneIsWaking();
        whatIsFoundCannotBeWoken();
        onlyWhatIsFoundIsWoken();
        twoSeekTheSame();
        aUseBeginsWhenItIsDue();
        aUseBeginsLate();
        oneUseInATick();
        usesOfAllLengths();
        payments();
        timeOuts();
        aTimeOutThatIsLessThanTheIdling();
        noTimeOutInAUse();
        aCalledRoomFallsAsleepToo();
        timeOutsOfTheNeeded();
        theLowerOneComesFirst();
        fallsAsleepWhereItIsNotNeeded();
        usesThatBegin();
        time();
        Check.end();
    }

    private static WokenRooms rooms(int... wakeTimes) {
        WokenRooms x = new WokenRooms();
        for (int wakeTime : wakeTimes) {
            Check.plugged(x, 0, wakeTime);
        }
        return x;
    }

    /** "For each room, by number": the lower ones take the places of the rail. */
    private static void roomsByNumber() {
        WokenRooms x = rooms(9, 9, 9, 9);
        for (int room = 3; room >= 0; room--) {
            x.use(room, 3 - room, 1);
        }
        x.tick(1);
        Chips.dueStates(x, ASLEEP, ASLEEP, ASLEEP, WAKING);
        x.drop(3);
        x.tick(3);
        Chips.dueStates(x, ASLEEP, ASLEEP, WAKING, WAKING);
        WokenRooms y = rooms(9, 9, 9, 9);
        for (int room = 3; room >= 0; room--) {
            y.use(room, 1, 1);
        }
        y.tick(2);
        Chips.dueStates(y, WAKING, WAKING, ASLEEP, ASLEEP);
    }

    /** A room that comes later in the step wakes one that was looked at already: it pays nothing more in this tick. */
    private static void aLowerRoomIsSoughtByAHigherOne() {
        WokenRooms x = rooms(1, 1);
        x.need(1, 0);
        x.use(1, 0, 3);
        x.tick(1);
        Chips.dueStates(x, AWAKE, ASLEEP);
        Check.due("waking alone is paid", x.energy(0, 4), 10);
        Check.due("asleep is paid", x.energy(1, 4), 1);
        x.use(0, 1, 1);
        x.tick(1);
        Check.due("its use begins ahead, and the higher one is woken", x.count(8), 1);
        Chips.dueStates(x, AWAKE, AWAKE);
        Check.due("in use is paid", x.energy(0, 1), 5);
    }

    /** "otherwise the one that it needs, if this is asleep, in the same way" */
    private static void aChainOfEight() {
        WokenRooms x = new WokenRooms();
        for (int i = 0; i < 8; i++) {
            Check.plugged(x, i % 2, 2);
            x.need(i, i - 1);
        }
        x.use(7, 0, 1);
        for (int time = 0; time < 16; time++) {
            x.tick(1);
            for (int i = 0; i < 8; i++) {
                int state = i < time / 2 ? AWAKE : i > time / 2 ? ASLEEP : time % 2 == 0 ? WAKING : AWAKE;
                Check.due("room " + i + " behind the tick at " + time, x.roomOf(i, 1), state);
            }
        }
        Check.due("then it begins", x.tick(1), 1);
        Check.due("late", x.roomOf(7, 10), 16);
        WokenRooms y = new WokenRooms();
        for (int i = 0; i < 8; i++) {
            Check.plugged(y, i % 2, 20);
            y.need(i, i - 1);
        }
        y.use(7, 0, 1);
        Check.due("begins in", y.beginsIn(7), 160);
    }

    private static void theNeededOneIsWaking() {
        WokenRooms x = rooms(5, 1, 1);
        x.need(1, 0);
        x.need(2, 1);
        x.wake(0);
        x.use(2, 0, 1);
        for (int time = 0; time < 5; time++) {
            Check.due("nothing is woken meanwhile", x.count(4), 1);
            x.tick(1);
        }
        Chips.dueStates(x, AWAKE, ASLEEP, ASLEEP);
        x.tick(1);
        Chips.dueStates(x, AWAKE, AWAKE, ASLEEP);
        x.tick(1);
        Chips.dueStates(x, AWAKE, AWAKE, AWAKE);
        Check.due("begins", x.tick(1), 1);
    }

    /** "what is found is woken, if it can be": if not, nothing else is. */
    private static void whatIsFoundCannotBeWoken() {
        WokenRooms x = new WokenRooms();
        x.room(0, 10, 2, 5, 3, 1);
        Check.plugged(x, 1, 2);
        x.need(1, 0);
        x.use(1, 0, 1);
        x.tick(9);
        Chips.dueStates(x, ASLEEP, ASLEEP);
        x.plug(0, 0);
        x.tick(1);
        Chips.dueStates(x, WAKING, ASLEEP);
        WokenRooms y = rooms(9, 9, 2);
        y.limit(0, 1);
        Check.plugged(y, 1, 1);
        y.need(3, 2);
        y.wake(0);
        y.use(3, 0, 1);
        y.tick(8);
        Chips.dueStates(y, WAKING, ASLEEP, ASLEEP, ASLEEP);
        y.tick(1);
        Chips.dueStates(y, AWAKE, ASLEEP, ASLEEP, ASLEEP);
        y.tick(1);
        Chips.dueStates(y, AWAKE, ASLEEP, WAKING, ASLEEP);
    }

    /** A room that is ready is what is found, though it needs one that is up; others of the chain are left alone. */
    private static void onlyWhatIsFoundIsWoken() {
        WokenRooms x = rooms(1, 1, 1, 1);
        x.need(1, 0);
        x.need(2, 1);
        x.use(1, 0, 1);
        x.use(3, 0, 1);
        x.tick(1);
        Chips.dueStates(x, AWAKE, ASLEEP, ASLEEP, AWAKE);
        x.tick(1);
        Chips.dueStates(x, AWAKE, AWAKE, ASLEEP, AWAKE);
        x.tick(9);
        Chips.dueStates(x, AWAKE, AWAKE, ASLEEP, AWAKE);
        Check.due("the one that needs them is not called", x.roomOf(2, 11), 0);
    }

    private static void twoSeekTheSame() {
        WokenRooms x = rooms(3, 3, 3);
        x.need(1, 0);
        x.need(2, 0);
        x.use(1, 0, 1);
        x.use(2, 0, 1);
        x.tick(1);
        Chips.dueStates(x, WAKING, ASLEEP, ASLEEP);
        Check.due("woken once", x.roomOf(0, 11), 1);
        Check.due("paid once", x.energy(0, 0), 10);
        x.tick(3);
        Chips.dueStates(x, AWAKE, WAKING, WAKING);
    }

    /** "if the room is awake and its first use is due, this use begins" */
    private static void aUseBeginsWhenItIsDue() {
        WokenRooms x = rooms(1);
        x.wake(0);
        x.use(0, 3, 4);
        Check.due("due later", x.tick(3), 0);
        Check.due("awake", x.roomOf(0, 1), AWAKE);
        Check.due("planned", x.roomOf(0, 8), 1);
        Check.due("due now", x.tick(1), 1);
        Check.due("in use", x.roomOf(0, 1), IN_USE);
        Check.due("for its length", x.roomOf(0, 4), 3);
        Check.due("planned no more", x.roomOf(0, 8), 0);
        Check.due("planned no more", x.count(1), 0);
        Check.due("begun", x.roomOf(0, 9), 1);
        Check.due("not late", x.roomOf(0, 10), 0);
    }

    /** "it was late by the present time less its own" */
    private static void aUseBeginsLate() {
        for (int wakeTime = 1; wakeTime <= 20; wakeTime++) {
            WokenRooms x = rooms(wakeTime);
            x.use(0, 2, 1);
            Check.due("not awake", x.tick(2 + wakeTime), 0);
            Check.due("awake", x.roomOf(0, 1), AWAKE);
            Check.due("begins", x.tick(1), 1);
            Check.due("late", x.roomOf(0, 10), wakeTime);
            Check.due("late in all", x.count(9), wakeTime);
        }
    }

    /** A use begins only where the room is awake: not in the tick in which another one of it ends. */
    private static void oneUseInATick() {
        WokenRooms x = rooms(1, 1);
        x.wake(0);
        x.wake(1);
        x.tick(1);
        for (int i = 0; i < 3; i++) {
            x.use(0, 1, 1);
            x.use(1, 1, 2);
        }
        int[] begun = {2, 1, 2, 0, 1, 0};
        for (int uses : begun) {
            Check.due("uses that begin", x.tick(1), uses);
        }
        Check.due("late, those of 1 tick", x.roomOf(0, 10), 1 + 2);
        Check.due("late, those of 2 ticks", x.roomOf(1, 10), 2 + 4);
    }

    private static void usesOfAllLengths() {
        for (int length = 1; length <= 50; length++) {
            WokenRooms x = rooms(1);
            x.wake(0);
            x.tick(1);
            x.use(0, 1, length);
            x.use(0, 1, 1);
            for (int left = length; left > 1; left--) {
                x.tick(1);
                Check.due("in use", x.roomOf(0, 1), IN_USE);
                Check.due("left", x.roomOf(0, 4), left - 1);
            }
            x.tick(1);
            Check.due("awake", x.roomOf(0, 1), AWAKE);
            Check.due("has not idled", x.roomOf(0, 5), 0);
            Check.due("in use is paid", x.energy(0, 1), 5 * length);
            Check.due("awake is not", x.energy(0, 2), 0);
            Check.due("the next one begins", x.tick(1), 1);
            Check.due("late", x.roomOf(0, 10), length);
        }
    }

    /** "Each room pays for its state": for that behind the first step, ahead of the third. */
    private static void payments() {
        WokenRooms x = new WokenRooms();
        x.room(0, 500, 2, 40, 7, 3);
        x.plug(0, 0);
        x.policy(0, 2, 0);
        x.use(0, 1, 2);
        // Asleep, woken, awake behind it, the use, its end, idled for 1, for 2 and asleep then, asleep.
        int[] paid = {3, 500, 0, 40, 40, 7, 7, 3, 3};
        int[] states = {ASLEEP, WAKING, AWAKE, IN_USE, AWAKE, AWAKE, ASLEEP, ASLEEP, ASLEEP};
        int all = 0;
        for (int time = 0; time < paid.length; time++) {
            Check.due("ahead " + time, x.ahead(1, 0), paid[time]);
            x.tick(1);
            all += paid[time];
            Check.due("paid by " + time, x.energy(0, 4), all);
            Check.due("state behind " + time, x.roomOf(0, 1), states[time]);
        }
    }

    /** "if it has a time-out, has idled for as many ticks or more .. it falls asleep" */
    private static void timeOuts() {
        int[] timeOuts = {0, 1, 2, 3, 50, 98, 99};
        for (int timeOut : timeOuts) {
            WokenRooms x = rooms(1);
            x.policy(0, timeOut, 0);
            x.wake(0);
            x.tick(1);
            for (int idled = 1; idled <= 100; idled++) {
                x.tick(1);
                boolean asleep = timeOut > 0 && idled >= timeOut;
                Check.due("time-out " + timeOut + ", at " + idled, x.roomOf(0, 1), asleep ? ASLEEP : AWAKE);
                Check.due("idled", x.roomOf(0, 5), asleep ? 0 : idled);
            }
            Check.due("awake is paid", x.energy(0, 2), 3 * (timeOut == 0 ? 100 : timeOut));
        }
        WokenRooms y = rooms(1);
        y.wake(0);
        y.tick(1);
        for (int i = 0; i < 40; i++) {
            y.tick(200);
        }
        Check.due("no time-out", y.roomOf(0, 5), 8000);
        Check.due("sleep", y.sleep(0), 8000);
    }

    private static void aTimeOutThatIsLessThanTheIdling() {
        int[] timeOuts = {1, 29, 30, 31, 32, 99};
        for (int timeOut : timeOuts) {
            WokenRooms x = rooms(1);
            x.wake(0);
            x.tick(1);
            x.tick(30);
            x.policy(0, timeOut, 0);
            Check.due("awake up to the tick", x.roomOf(0, 5), 30);
            x.tick(1);
            Check.due("time-out " + timeOut + ", 31 idled", x.roomOf(0, 1), timeOut <= 31 ? ASLEEP : AWAKE);
        }
        WokenRooms y = rooms(1);
        y.policy(0, 5, 0);
        y.wake(0);
        y.tick(5);
        y.policy(0, 0, 0);
        y.tick(50);
        Check.due("the time-out was taken away", y.roomOf(0, 5), 54);
    }

    /** The idling begins anew behind a use; a use that is due begins ahead of the falling asleep. */
    private static void noTimeOutInAUse() {
        WokenRooms x = rooms(1);
        x.policy(0, 3, 0);
        x.wake(0);
        x.tick(1);
        x.tick(2);
        x.use(0, 3, 9);
        x.tick(9);
        Check.due("awake behind the use", x.roomOf(0, 1), AWAKE);
        Check.due("has not idled", x.roomOf(0, 5), 0);
        x.tick(2);
        Check.due("has idled", x.roomOf(0, 5), 2);
        x.tick(1);
        Check.due("asleep", x.roomOf(0, 1), ASLEEP);
        WokenRooms y = rooms(20);
        y.policy(0, 1, 0);
        y.wake(0);
        y.tick(20);
        Check.due("waking is not idling", y.roomOf(0, 1), AWAKE);
        y.tick(1);
        Check.due("idled for 1", y.roomOf(0, 1), ASLEEP);
    }

    /** The guesses do not keep a room awake: the guess 1 wakes it again in the next tick, the guess 2 does not. */
    private static void aCalledRoomFallsAsleepToo() {
        WokenRooms x = rooms(3);
        x.policy(0, 4, 1);
        x.use(0, 9, 1);
        x.wake(0);
        x.tick(6);
        Check.due("called, and awake", x.roomOf(0, 12) + 10 * x.roomOf(0, 1), 1 + 10 * AWAKE);
        x.tick(1);
        Check.due("called, and asleep", x.roomOf(0, 12) + 10 * x.roomOf(0, 1), 1 + 10 * ASLEEP);
        x.tick(1);
        Check.due("woken again", x.roomOf(0, 1) + 10 * x.roomOf(0, 11), WAKING + 20);
        x.tick(3);
        Check.due("late", x.roomOf(0, 10), 1);
        WokenRooms y = rooms(1);
        y.wake(0);
        y.use(0, 1, 1);
        y.use(0, 7, 1);
        y.policy(0, 5, 2);
        y.tick(6);
        y.policy(0, 0, 2);
        y.tick(2);
        y.policy(0, 5, 2);
        // The gap is 5, so that the guess calls at 8 + 5 - 1, when it has idled for 4.
        y.tick(4);
        Check.due("called, and awake", y.roomOf(0, 12) + 10 * y.roomOf(0, 1), 1 + 10 * AWAKE);
        y.tick(1);
        Check.due("asleep", y.roomOf(0, 12) + 10 * y.roomOf(0, 1), 10 * ASLEEP);
        y.tick(9);
        Check.due("woken once", y.roomOf(0, 11), 1);
    }

    /** "and all rooms that need it are asleep": room 0 has the time-out 2; rooms 1 and 2 need it, in some states. */
    private static void timeOutsOfTheNeeded() {
        for (int state = 0; state < 16; state++) {
            WokenRooms x = rooms(1, 9, 9);
            x.need(1, 0);
            x.need(2, 0);
            x.wake(0);
            x.tick(1);
            int later = state % 4 == WAKING ? 1 : 2;
            bring(x, 3 - later, later == 1 ? state / 4 : state % 4);
            bring(x, later, later == 1 ? state % 4 : state / 4);
            x.policy(0, 2, 0);
            x.tick(1);
            Chips.dueStates(x, AWAKE, state % 4, state / 4);
            int idled = x.roomOf(0, 5);
            x.tick(1);
            Check.due("the needed one", x.roomOf(0, 1), state == 0 ? ASLEEP : AWAKE);
            Check.due("idles on", x.roomOf(0, 5), state == 0 ? 0 : idled + 1);
            Check.due("the states", x.roomOf(1, 1) + 4 * x.roomOf(2, 1), state);
        }
    }

    private static void bring(WokenRooms x, int room, int state) {
        if (state == ASLEEP) {
            return;
        }
        x.wake(room);
        if (state != WAKING) {
            x.tick(9);
        }
        if (state == IN_USE) {
            x.use(room, x.count(2), 50);
        }
    }

    /** Room 0 is looked at ahead of room 1, which needs it: both time-outs are up in the same tick. */
    private static void theLowerOneComesFirst() {
        WokenRooms x = rooms(1, 1, 1);
        x.need(1, 0);
        x.need(2, 1);
        for (int room = 0; room < 3; room++) {
            x.wake(room);
            x.tick(1);
        }
        for (int room = 0; room < 3; room++) {
            x.policy(room, 4, 0);
        }
        x.tick(3);
        Chips.dueStates(x, AWAKE, AWAKE, AWAKE);
        x.tick(1);
        Chips.dueStates(x, AWAKE, AWAKE, ASLEEP);
        Check.due("idled for longer", x.roomOf(0, 5), 6);
        x.tick(1);
        Chips.dueStates(x, AWAKE, ASLEEP, ASLEEP);
        x.tick(1);
        Chips.dueStates(x, ASLEEP, ASLEEP, ASLEEP);
    }

    /** Rooms that need another one, or that were let need none, do not count. */
    private static void fallsAsleepWhereItIsNotNeeded() {
        WokenRooms x = rooms(1, 1, 1);
        x.need(2, 1);
        x.policy(0, 2, 0);
        for (int room = 0; room < 3; room++) {
            x.wake(room);
            x.tick(1);
        }
        Chips.dueStates(x, ASLEEP, AWAKE, AWAKE);
        WokenRooms y = rooms(1, 1);
        y.need(1, 0);
        y.need(1, -1);
        y.wake(0);
        y.wake(1);
        y.policy(0, 2, 0);
        y.tick(3);
        Chips.dueStates(y, ASLEEP, AWAKE);
    }

    private static void usesThatBegin() {
        WokenRooms x = rooms(1, 1);
        x.wake(0);
        x.wake(1);
        x.tick(1);
        for (int i = 0; i < 12; i++) {
            x.use(i % 2, 1 + i / 2, 1);
        }
        Check.due("ahead", x.ahead(5, 2), 10);
        Check.due("all but the last ones", x.tick(5), 10);
        Check.due("the last ones", x.tick(200), 2);
        Check.due("no others", x.tick(200), 0);
        Check.due("begun", x.count(8), 12);
        Check.due("late", x.count(9), 0);
    }

    /** "Time becomes greater by 1." */
    private static void time() {
        WokenRooms x = new WokenRooms();
        int time = 0;
        for (int ticks = 1; ticks <= 200; ticks++) {
            Check.due("tick " + ticks, x.tick(ticks), 0);
            time += ticks;
            Check.due("time", x.count(2), time);
        }
    }
}
