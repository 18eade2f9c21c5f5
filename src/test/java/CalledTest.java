/** When a room is called: by its first use, by the guess 1, by the guess 2, each at the tick told and not beside it. */
public final class CalledTest {
    public static void main(String[] args) {
        byItsFirstUse();
        byItsFirstUseWhileItIsUp();
        byTheGuessOfThePlan();
        byTheGuessOfThePlanAheadOfTheTime();
        noGuessWithoutAUse();
        byTheGuessOfTheGap();
        wokenByTheGuessOfTheGap();
        noGuessByOneUse();
        theGapOfTheLatestTwo();
        whileTheRoomIsUp();
        inUse();
        aMissedGuess();
        guessesAreApart();
        Check.end();
    }

    private static WokenRooms one(int wakeTime, int guess) {
        WokenRooms x = new WokenRooms();
        Check.plugged(x, 0, wakeTime);
        x.policy(0, 0, guess);
        return x;
    }

    private static void dueCalled(String when, WokenRooms x, boolean called) {
        Check.due("called, " + when, x.roomOf(0, 12), called ? 1 : 0);
    }

    /** "if its first use is due (its time is this time or earlier)" */
    private static void byItsFirstUse() {
        for (int guess = 0; guess < 3; guess += 2) {
            WokenRooms x = one(4, guess);
            dueCalled("without a use", x, false);
            x.use(0, 3, 1);
            for (int time = 0; time < 3; time++) {
                dueCalled("a use is due later", x, false);
                x.tick(1);
                Check.due("asleep", x.roomOf(0, 1), Chips.ASLEEP);
            }
            dueCalled("a use is due now", x, true);
            x.unplug(0);
            x.tick(9);
            dueCalled("a use was due long ago", x, true);
            x.drop(0);
            dueCalled("no use is planned", x, false);
            x.use(0, 13, 1);
            dueCalled("a use is due in the next tick", x, false);
            x.use(0, 12, 1);
            dueCalled("the one planned last is due now", x, true);
        }
    }

    private static void byItsFirstUseWhileItIsUp() {
        WokenRooms x = one(2, 0);
        x.use(0, 0, 3);
        x.tick(1);
        dueCalled("waking", x, true);
        x.tick(1);
        dueCalled("awake", x, true);
        x.tick(1);
        dueCalled("it has begun, and no other is planned", x, false);
        x.use(0, 3, 1);
        dueCalled("in use, and another one is due", x, true);
        x.drop(0);
        x.use(0, 4, 1);
        dueCalled("in use, and another one is due later", x, false);
    }

    /** "the time of its first use less the ticks that its waking takes is this time or earlier" */
    private static void byTheGuessOfThePlan() {
        for (int wakeTime = 1; wakeTime <= 20; wakeTime++) {
            WokenRooms x = one(wakeTime, 1);
            x.use(0, 24, 1);
            x.use(0, 40, 1);
            for (int time = 0; time < 24; time++) {
                dueCalled("at " + time + ", waking takes " + wakeTime, x, time >= 24 - wakeTime);
                x.tick(1);
                Check.due("woken by " + time, x.roomOf(0, 11), time >= 24 - wakeTime ? 1 : 0);
            }
            Check.due("begins in time", x.tick(1), 1);
            Check.due("is not late", x.roomOf(0, 10), 0);
        }
    }

    private static void byTheGuessOfThePlanAheadOfTheTime() {
        for (int due = 0; due <= 22; due++) {
            WokenRooms x = one(20, 1);
            x.use(0, due, 1);
            dueCalled("a use is due at " + due, x, due <= 20);
            Check.due("begins in", x.beginsIn(0), due <= 20 ? 20 : due);
        }
        WokenRooms y = one(20, 1);
        y.use(0, 30, 1);
        y.tick(9);
        dueCalled("21 ticks ahead", y, false);
        y.policy(0, 0, 0);
        y.tick(5);
        dueCalled("16 ticks ahead, without the guess", y, false);
        y.policy(0, 0, 1);
        dueCalled("16 ticks ahead, with the guess", y, true);
    }

    /** "with the guess 1, if it has a use" */
    private static void noGuessWithoutAUse() {
        for (int guess = 0; guess < 3; guess++) {
            WokenRooms x = one(20, guess);
            Check.plugged(x, 1, 5);
            x.use(1, 0, 1);
            dueCalled("the use is that of another room", x, false);
            x.tick(30);
            Check.due("never woken", x.roomOf(0, 11), 0);
        }
    }

    /** Two uses have begun, with a gap between, the second one in the latest tick; endOf tells its end. */
    private static WokenRooms usedTwice(int wakeTime, int gap, int length) {
        WokenRooms x = one(wakeTime, 2);
        x.wake(0);
        x.tick(wakeTime);
        x.use(0, wakeTime, 1);
        x.use(0, wakeTime + 1 + gap, length);
        x.tick(2 + gap);
        Check.due("two uses have begun", x.roomOf(0, 9), 2);
        Check.due("gap", x.roomOf(0, 13), gap);
        return x;
    }

    private static int endOf(int wakeTime, int gap, int length) {
        return wakeTime + 1 + gap + length;
    }

    /** "this time is just the end of its latest use, plus the gap, less the ticks that its waking takes" */
    private static void byTheGuessOfTheGap() {
        int[][] cases = {{1, 0, 1}, {1, 0, 5}, {1, 1, 1}, {1, 2, 3}, {1, 30, 50}, {2, 1, 4}, {5, 4, 9}, {5, 5, 9},
            {5, 6, 9}, {20, 19, 50}, {20, 20, 50}, {20, 21, 50}, {20, 0, 50}, {19, 40, 1}, {20, 3, 1}};
        for (int[] a : cases) {
            WokenRooms x = usedTwice(a[0], a[1], a[2]);
            int end = endOf(a[0], a[1], a[2]);
            for (int time = x.count(2); time < end + a[1] + 5; time++) {
                dueCalled("at " + time + ", the end was " + end + ", the gap is " + a[1], x,
                    time >= end && time == end + a[1] - a[0]);
                x.tick(1);
            }
            Check.due("stays awake", x.roomOf(0, 1), Chips.AWAKE);
        }
    }

    private static void wokenByTheGuessOfTheGap() {
        int[][] cases = {{1, 2, 3}, {1, 1, 1}, {5, 5, 1}, {5, 6, 50}, {20, 21, 2}, {20, 60, 2}, {20, 19, 2}, {1, 0, 1}};
        for (int[] a : cases) {
            WokenRooms x = usedTwice(a[0], a[1], a[2]);
            int end = endOf(a[0], a[1], a[2]);
            if (x.count(2) < end) {
                x.tick(end - x.count(2));
            }
            Check.due("sleep at the end", x.sleep(0), 0);
            for (int time = end; time < end + a[1] + 5; time++) {
                x.tick(1);
                boolean woken = a[1] >= a[0] && time >= end + a[1] - a[0];
                Check.due("woken by " + time, x.roomOf(0, 11), woken ? 2 : 1);
            }
        }
    }

    /** "if two uses of it have begun already" */
    private static void noGuessByOneUse() {
        int[] begins = {2, 3, 10, 20};
        for (int begin : begins) {
            WokenRooms x = one(2, 2);
            x.wake(0);
            x.use(0, begin, 3);
            x.use(0, 60, 1);
            x.tick(begin + 3);
            Check.due("one has begun, another one is planned", x.roomOf(0, 9), 1);
            for (int time = begin + 3; time < 60; time++) {
                dueCalled("one has begun", x, false);
                Check.due("no gap", x.roomOf(0, 13), Check.NOT_FOUND);
                x.tick(1);
            }
            x.tick(1);
            Check.due("a gap behind the second", x.roomOf(0, 13), 60 - begin - 3);
            x.tick(60 - begin - 3 - 2);
            dueCalled("two have begun", x, true);
        }
    }

    /** "the gap is the time at which its latest use began less the end of the one before" */
    private static void theGapOfTheLatestTwo() {
        WokenRooms x = usedTwice(3, 8, 2);
        // The second use ends at 14, a third one begins at 20 and ends at 24, a fourth begins at 24 and ends at 29.
        x.use(0, 20, 4);
        x.tick(20 - x.count(2));
        Check.due("the gap ahead of the third", x.roomOf(0, 13), 8);
        x.tick(1);
        Check.due("the gap behind the second", x.roomOf(0, 13), 6);
        x.tick(6);
        dueCalled("at 24 + 6 - 3", x, true);
        WokenRooms y = usedTwice(3, 8, 2);
        y.use(0, 20, 4);
        y.use(0, 22, 5);
        y.tick(24 - y.count(2));
        y.tick(1);
        Check.due("the gap behind the third, by which the fourth is late", y.roomOf(0, 13), 0);
        Check.due("late", y.roomOf(0, 10), 2);
    }

    /** The guess 2 calls a room that is awake or waking, too. */
    private static void whileTheRoomIsUp() {
        WokenRooms x = usedTwice(4, 9, 1);
        int call = endOf(4, 9, 1) + 9 - 4;
        x.sleep(0);
        x.tick(call - 1 - x.count(2));
        x.wake(0);
        x.tick(1);
        Check.due("waking", x.roomOf(0, 1), Chips.WAKING);
        dueCalled("waking", x, true);
        x.tick(1);
        dueCalled("waking, a tick later", x, false);
        Check.due("not woken anew", x.roomOf(0, 11), 2);
    }

    /** "While the room is in use, the guess 2 does not call." */
    private static void inUse() {
        for (int wakeTime = 1; wakeTime <= 20; wakeTime++) {
            // The call would be at the end less wakeTime: in the use, which is longer.
            WokenRooms x = usedTwice(wakeTime, 0, 25);
            for (int left = 24; left > 0; left--) {
                Check.due("in use", x.roomOf(0, 1), Chips.IN_USE);
                dueCalled("in use", x, false);
                x.tick(1);
            }
            dueCalled("at the end", x, false);
        }
        WokenRooms y = usedTwice(3, 3, 6);
        y.tick(5);
        Check.due("awake at the end", y.roomOf(0, 1), Chips.AWAKE);
        dueCalled("at the end, with a gap of the ticks that waking takes", y, true);
    }

    /** The guess 2 calls at just one time: a room that could not be woken then sleeps on. */
    private static void aMissedGuess() {
        WokenRooms x = usedTwice(4, 9, 1);
        int call = endOf(4, 9, 1) + 9 - 4;
        x.sleep(0);
        Check.plugged(x, 0, 3);
        x.limit(0, 1);
        x.tick(call - 1 - x.count(2));
        x.wake(1);
        x.tick(1);
        dueCalled("the rail is busy", x, true);
        x.tick(1);
        dueCalled("a tick later", x, false);
        x.tick(50);
        Check.due("sleeps on", x.roomOf(0, 1), Chips.ASLEEP);
        Check.due("woken once", x.roomOf(0, 11), 1);
    }

    /** The guess 1 does not go by the gap, the guess 2 not by the plan, the guess 0 by neither. */
    private static void guessesAreApart() {
        for (int guess = 0; guess < 3; guess++) {
            WokenRooms x = usedTwice(4, 9, 1);
            int call = endOf(4, 9, 1) + 9 - 4;
            x.tick(call - x.count(2));
            x.policy(0, 0, guess);
            dueCalled("by the gap, guess " + guess, x, guess == 2);
            x.tick(1);
            x.use(0, call + 1 + 4, 1);
            dueCalled("by the plan, guess " + guess, x, guess == 1);
        }
    }
}
