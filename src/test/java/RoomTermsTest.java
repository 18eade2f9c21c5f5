/** The sentences of "Rooms", "Rails" and "Uses" in the document's terms, each at its boundaries. */
public final class RoomTermsTest {
    private static final int ASLEEP = Chips.ASLEEP;
    private static final int WAKING = Chips.WAKING;
    private static final int AWAKE = Chips.AWAKE;
    private static final int IN_USE = Chips.IN_USE;

    public static void main(String[] args) {
        atMostEightRooms();
        aRoomAtFirst();
        wakingCostsAndTakes();
        ticksCost();
        readyByTheRoomThatItNeeds();
        readyInATick();
        eachRailTakesItsKind();
        fourPlacesOnEachRail();
        onlyPluggedRoomsWake();
        theLimitWhileWaking();
        theLimitInATick();
        onlyWakingRoomsOfTheRailCount();
        toWake();
        twelveUsesAtATime();
        theFirstUse();
        theFirstUseOfSeveral();
        thereAndBack();
        Check.end();
    }

    /** "There are at most 8 rooms, numbered from 0" */
    private static void atMostEightRooms() {
        WokenRooms x = new WokenRooms();
        for (int i = 0; i < 8; i++) {
            Check.due("rooms", x.count(0), i);
            Check.due("no room yet", x.roomOf(i, 0), Check.INVALID);
            Check.due("room", x.room(i / 4, 1, 1, 1, 1, 1), i);
            Check.due("kind", x.roomOf(i, 0), i / 4);
        }
        Check.due("a ninth", x.room(0, 1, 1, 1, 1, 1), Check.LIMIT);
        Check.due("rooms", x.count(0), 8);
        Check.due("no room 8", x.roomOf(8, 0), Check.INVALID);
        x.undo();
        Check.due("room 7 again", x.room(0, 1, 1, 1, 1, 1), 7);
        Check.due("its kind", x.roomOf(7, 0), 0);
        Check.due("a ninth again", x.room(1, 1, 1, 1, 1, 1), Check.LIMIT);
    }

    /** "asleep (at first)", "0 at first, which means that there is none", "0 at first" */
    private static void aRoomAtFirst() {
        WokenRooms x = Chips.busy();
        int room = x.room(1, 7, 8, 9, 10, 11);
        int[] due = {1, ASLEEP, Check.NOT_FOUND, Check.NOT_FOUND, 0, 0, 0, 0, 0, 0, 0, 0, 0, Check.NOT_FOUND};
        for (int what = 0; what < due.length; what++) {
            Check.due("roomOf a new room " + what, x.roomOf(room, what), due[what]);
        }
        for (int what = 0; what < 5; what++) {
            Check.due("energy of a new room " + what, x.energy(room, what), 0);
        }
        Check.due("no mean lateness", x.lateBits(room), Check.NOT_FOUND);
        Check.due("begins never", x.beginsIn(room), Check.NOT_FOUND);
    }

    /** "the energy that waking costs (0 to 500), the ticks that waking takes (1 to 20)" */
    private static void wakingCostsAndTakes() {
        int[] costs = {0, 1, 499, 500};
        for (int ticks = 1; ticks <= 20; ticks++) {
            int cost = costs[ticks % 4];
            WokenRooms x = new WokenRooms();
            x.room(0, cost, ticks, 50, 50, 20);
            x.plug(0, 0);
            Check.due("wake", x.wake(0), ticks);
            for (int left = ticks; left > 0; left--) {
                Check.due("waking", x.roomOf(0, 1), WAKING);
                Check.due("left", x.roomOf(0, 4), left);
                Check.due("paid", x.energy(0, 4), cost);
                x.tick(1);
            }
            Check.due("awake", x.roomOf(0, 1), AWAKE);
            Check.due("nothing left", x.roomOf(0, 4), 0);
            Check.due("has not idled", x.roomOf(0, 5), 0);
            Check.due("a tick while it is waking costs nothing more", x.energy(0, 4), cost);
        }
    }

    /** "while it is in use (1 to 50), awake (0 to 50), and asleep (0 to 20)" */
    private static void ticksCost() {
        int[][] costs = {{1, 0, 0}, {50, 50, 20}, {1, 50, 0}, {50, 0, 20}, {2, 1, 1}, {49, 49, 19}};
        for (int[] cost : costs) {
            WokenRooms x = new WokenRooms();
            x.room(0, 0, 1, cost[0], cost[1], cost[2]);
            x.plug(0, 0);
            x.tick(3);
            Check.due("3 ticks asleep", x.count(7), 3 * cost[2]);
            x.wake(0);
            x.tick(1);
            x.tick(4);
            Check.due("4 ticks awake", x.count(7), 3 * cost[2] + 4 * cost[1]);
            x.use(0, 8, 50);
            x.tick(50);
            Check.due("50 ticks in use", x.count(7), 3 * cost[2] + 4 * cost[1] + 50 * cost[0]);
            x.tick(1);
            Check.due("awake behind it", x.energy(0, 2), 5 * cost[1]);
            Check.due("in use", x.energy(0, 1), 50 * cost[0]);
            Check.due("asleep", x.energy(0, 3), 3 * cost[2]);
        }
    }

    /** Room 0 is in a state, room 1 sleeps and needs it. */
    private static WokenRooms needing(int state) {
        WokenRooms x = new WokenRooms();
        Check.plugged(x, 0, 2);
        Check.plugged(x, 0, 2);
        x.need(1, 0);
        if (state != ASLEEP) {
            x.wake(0);
        }
        x.tick(state == WAKING ? 1 : 2);
        if (state == IN_USE) {
            x.use(0, 2, 9);
            x.tick(1);
        }
        Chips.dueStates(x, state, ASLEEP);
        return x;
    }

    /** "ready to be woken if it needs none, or the room that it needs is awake or in use" */
    private static void readyByTheRoomThatItNeeds() {
        Check.due("needs one asleep", needing(ASLEEP).wake(1), Check.NOT_POSSIBLE);
        Check.due("needs one waking", needing(WAKING).wake(1), Check.NOT_POSSIBLE);
        Check.due("needs one awake", needing(AWAKE).wake(1), 2);
        Check.due("needs one in use", needing(IN_USE).wake(1), 2);
        for (int state = ASLEEP; state <= IN_USE; state++) {
            WokenRooms x = needing(state);
            x.need(1, -1);
            Check.due("needs none", x.wake(1), 2);
        }
    }

    private static void readyInATick() {
        int[][] due = {{WAKING, ASLEEP}, {AWAKE, ASLEEP}, {AWAKE, WAKING}, {IN_USE, WAKING}};
        for (int state = ASLEEP; state <= IN_USE; state++) {
            WokenRooms x = needing(state);
            x.use(1, x.count(2), 1);
            x.tick(1);
            Chips.dueStates(x, due[state]);
        }
    }

    /** "rail 0 takes rooms of logic, rail 1 rooms of memory" */
    private static void eachRailTakesItsKind() {
        for (int kind = 0; kind < 2; kind++) {
            for (int rail = 0; rail < 2; rail++) {
                WokenRooms x = new WokenRooms();
                x.room(kind, 1, 1, 1, 1, 1);
                int due = kind == rail ? 1 : Check.NOT_POSSIBLE;
                Check.due("kind " + kind + " into rail " + rail, x.plug(0, rail), due);
                Check.due("its rail", x.roomOf(0, 3), kind == rail ? rail : Check.NOT_FOUND);
                Check.due("its kind", x.roomOf(0, 0), kind);
            }
        }
    }

    /** "two rails with 4 places each" */
    private static void fourPlacesOnEachRail() {
        WokenRooms x = new WokenRooms();
        for (int i = 0; i < 8; i++) {
            x.room(i % 2, 1, 1, 1, 1, 1);
            Check.due("plug " + i, x.plug(i, i % 2), i / 2 + 1);
        }
        for (int i = 0; i < 8; i++) {
            Check.due("plugged", x.pluggedAt(i % 2, i / 2), i);
        }
        for (int kind = 0; kind < 2; kind++) {
            WokenRooms y = new WokenRooms();
            for (int i = 0; i < 5; i++) {
                y.room(kind, 1, 1, 1, 1, 1);
                Check.due("plug", y.plug(i, kind), i < 4 ? i + 1 : Check.LIMIT);
            }
            Check.due("unplug", y.unplug(1), 3);
            Check.due("plug into the free place", y.plug(4, kind), 4);
            Check.due("full again", y.plug(1, kind), Check.LIMIT);
            Check.due("in order", y.pluggedAt(kind, 1), 2);
            Check.due("the last", y.pluggedAt(kind, 3), 4);
            for (int left = 3; left >= 0; left--) {
                Check.due("unplug", y.unplug(left == 1 ? 4 : left), left);
            }
            Check.due("empty", y.pluggedAt(kind, 0), Check.NOT_FOUND);
        }
    }

    /** "A room can be woken only if it is plugged into a rail" */
    private static void onlyPluggedRoomsWake() {
        WokenRooms x = new WokenRooms();
        x.room(0, 1, 1, 1, 1, 1);
        Check.due("not plugged", x.wake(0), Check.NOT_POSSIBLE);
        x.plug(0, 0);
        x.unplug(0);
        Check.due("no more plugged", x.wake(0), Check.NOT_POSSIBLE);
        x.use(0, 0, 1);
        x.tick(5);
        Check.due("called, not plugged", x.roomOf(0, 1), ASLEEP);
        Check.due("is called", x.roomOf(0, 12), 1);
        x.plug(0, 0);
        Check.due("plugged", x.wake(0), 1);
    }

    private static WokenRooms fourOf(int kind, int limit, int wakeTime) {
        WokenRooms x = new WokenRooms();
        for (int i = 0; i < 4; i++) {
            Check.plugged(x, kind, wakeTime);
        }
        if (limit != 2) {
            x.limit(kind, limit);
        }
        return x;
    }

    /** "fewer rooms that are plugged there are waking than the limit of the rail tells (1 to 4; 2 at first)" */
    private static void theLimitWhileWaking() {
        for (int kind = 0; kind < 2; kind++) {
            for (int limit = 1; limit <= 4; limit++) {
                WokenRooms x = fourOf(kind, limit, 3);
                for (int i = 3; i >= 0; i--) {
                    Check.due("wake with the limit " + limit, x.wake(i), 3 - i < limit ? 3 : Check.NOT_POSSIBLE);
                }
                x.tick(2);
                Check.due("waking", x.count(4), limit);
                if (limit < 4) {
                    Check.due("waking still", x.wake(0), Check.NOT_POSSIBLE);
                    x.tick(1);
                    Check.due("waking no more", x.wake(0), 3);
                }
            }
        }
    }

    private static void theLimitInATick() {
        for (int kind = 0; kind < 2; kind++) {
            for (int limit = 1; limit <= 4; limit++) {
                WokenRooms x = fourOf(kind, limit, 3);
                for (int i = 0; i < 4; i++) {
                    x.use(i, 1, 1);
                }
                x.tick(1);
                Check.due("none is called", x.count(4), 0);
                for (int tick = 0; tick < 3; tick++) {
                    x.tick(1);
                    for (int i = 0; i < 4; i++) {
                        int state = i >= limit ? ASLEEP : tick < 2 ? WAKING : AWAKE;
                        Check.due("limit " + limit + ", room " + i, x.roomOf(i, 1), state);
                    }
                }
                x.tick(1);
                Check.due("the next ones", x.count(4), Math.min(limit, 4 - limit));
                Check.due("in use", x.count(8), limit);
            }
        }
    }

    private static void onlyWakingRoomsOfTheRailCount() {
        WokenRooms x = fourOf(0, 1, 2);
        for (int i = 0; i < 4; i++) {
            Check.plugged(x, 1, 2);
        }
        x.limit(1, 1);
        Check.due("room 0", x.wake(0), 2);
        Check.due("of the other rail", x.wake(4), 2);
        Check.due("room 1", x.wake(1), Check.NOT_POSSIBLE);
        Check.due("a second of the other rail", x.wake(5), Check.NOT_POSSIBLE);
        x.tick(2);
        x.use(0, 2, 50);
        x.tick(1);
        Chips.dueStates(x, IN_USE, ASLEEP, ASLEEP, ASLEEP, AWAKE);
        Check.due("where one is in use", x.wake(1), 2);
        Check.due("where one is awake", x.wake(5), 2);
        Check.due("where one is waking", x.wake(2), Check.NOT_POSSIBLE);
    }

    /** "it pays what waking costs, and is waking, with the ticks that this takes left" */
    private static void toWake() {
        WokenRooms x = new WokenRooms();
        x.room(0, 123, 17, 1, 1, 1);
        x.plug(0, 0);
        x.wake(0);
        Check.due("pays", x.energy(0, 0), 123);
        Check.due("is waking", x.roomOf(0, 1), WAKING);
        Check.due("ticks left", x.roomOf(0, 4), 17);
        Check.due("woken once", x.roomOf(0, 11), 1);
        x.tick(17);
        x.sleep(0);
        x.use(0, 17, 1);
        x.tick(1);
        Check.due("pays again", x.energy(0, 0), 246);
        Check.due("ticks left but for this one", x.roomOf(0, 4), 16);
        Check.due("woken twice", x.roomOf(0, 11), 2);
    }

    /** "At most 12 uses are planned at a time" */
    private static void twelveUsesAtATime() {
        WokenRooms x = new WokenRooms();
        Check.plugged(x, 0, 1);
        x.wake(0);
        x.tick(1);
        for (int i = 1; i <= 12; i++) {
            Check.due("use", x.use(0, i < 12 ? 100 : 1, 2), i);
        }
        Check.due("a thirteenth", x.use(0, 100, 1), Check.LIMIT);
        Check.due("planned", x.count(1), 12);
        Check.due("one begins", x.tick(1), 1);
        Check.due("planned", x.count(1), 11);
        Check.due("another twelfth", x.use(0, 50, 7), 12);
        Check.due("a thirteenth again", x.use(0, 100, 1), Check.LIMIT);
        Check.due("the twelfth is first", x.useOf(11, 3), 1);
        Check.due("drop", x.drop(11), 0);
        Check.due("planned", x.count(1), 11);
        Check.due("a twelfth once more", x.use(0, 60, 1), 12);
        Check.due("and no more", x.use(0, 60, 1), Check.LIMIT);
    }

    /** "The first use of a room is that which is due earliest, of several the one that was planned first" */
    private static void theFirstUse() {
        WokenRooms x = new WokenRooms();
        x.room(0, 1, 1, 1, 1, 1);
        x.room(0, 1, 1, 1, 1, 1);
        x.use(0, 10, 1);
        dueFirst(x, 0);
        x.use(0, 11, 1);
        dueFirst(x, 0);
        x.use(0, 10, 2);
        dueFirst(x, 0);
        x.use(1, 3, 1);
        dueFirst(x, 0, 3);
        x.use(0, 9, 1);
        dueFirst(x, 3, 4);
        x.use(0, 9, 2);
        dueFirst(x, 3, 4);
        x.drop(4);
        dueFirst(x, 3, 4);
        x.drop(4);
        dueFirst(x, 0, 3);
        x.drop(0);
        dueFirst(x, 1, 2);
    }

    /** The uses with these numbers are the first ones of their rooms, and no others are. */
    private static void dueFirst(WokenRooms x, int... firsts) {
        for (int number = 0; number < x.count(1); number++) {
            boolean first = false;
            for (int candidate : firsts) {
                first |= candidate == number;
            }
            Check.due("use " + number + " is first", x.useOf(number, 3), first ? 1 : 0);
        }
    }

    /** Uses that are due at once begin in the order in which they were planned, also behind others that begin. */
    private static void theFirstUseOfSeveral() {
        WokenRooms x = new WokenRooms();
        Check.plugged(x, 0, 1);
        Check.plugged(x, 1, 1);
        x.wake(0);
        x.wake(1);
        x.use(0, 5, 7);
        x.use(1, 5, 6);
        x.use(0, 5, 3);
        x.use(0, 4, 1);
        x.use(0, 5, 9);
        x.tick(4);
        int[] lengths = {1, 7, 3, 9};
        for (int length : lengths) {
            x.tick(1);
            Check.due("in use", x.roomOf(0, 1), length == 1 ? AWAKE : IN_USE);
            Check.due("left", x.roomOf(0, 4), length - 1);
            if (length > 1) {
                x.tick(length - 1);
            }
        }
        Check.due("none is left", x.count(1), 0);
    }

    /** What is set, or plugged, changes nothing but itself: where it is set back, all is as it was. */
    private static void thereAndBack() {
        String before = Check.allOf(Chips.busy());
        for (int which = 0; which < 6; which++) {
            WokenRooms x = Chips.busy();
            Check.holds("it is possible", goThereAndBack(x, which) >= 0);
            Check.holds("all is as it was " + which, before.equals(Check.allOf(x)));
        }
    }

    private static int goThereAndBack(WokenRooms x, int which) {
        switch (which) {
            case 0:
                return Math.min(x.unplug(6), x.plug(6, 0));
            case 1:
                return Math.min(x.plug(4, 0), x.unplug(4));
            case 2:
                return Math.min(x.need(5, -1), x.need(5, 0));
            case 3:
                return Math.min(x.policy(3, 99, 1), x.policy(3, 7, 2));
            case 4:
                return Math.min(x.limit(1, 1), x.limit(1, 3));
            default:
                return Math.min(x.use(0, 10, 1), x.drop(x.count(1) - 1));
        }
    }
}
