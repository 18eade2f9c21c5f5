/** Promises 1 to 10: rooms and rails. */
public final class RoomsAndRailsTest {
    public static void main(String[] args) {
        promise1NewObject();
        promise2Room();
        promise2Ranges();
        promise3Need();
        promise4Plug();
        promise5Unplug();
        promise6Limit();
        promise7Policy();
        promise8RoomOf();
        promise8LeftAndIdled();
        promise8Called();
        promise8Gap();
        promise9CostOf();
        promise10PluggedAt();
        Check.end();
    }

    private static void promise1NewObject() {
        WokenRooms x = new WokenRooms();
        for (int what = 0; what <= 11; what++) {
            Check.due("count " + what, x.count(what), 0);
        }
        Check.due("limit 0", x.count(20), 2);
        Check.due("limit 1", x.count(21), 2);
        Check.due("no room", x.roomOf(0, 0), Check.INVALID);
        Check.due("nothing to undo", x.undo(), Check.NOT_POSSIBLE);
        Check.due("nothing was paid", x.shareBits(), Check.NOT_FOUND);
        Check.due("no use", x.useOf(0, 0), Check.INVALID);
        for (int what = 0; what < 3; what++) {
            Check.due("no fault", x.fault(what), Check.NOT_FOUND);
            Check.due("nothing ahead", x.ahead(200, what), 0);
        }
        for (int rail = 0; rail < 2; rail++) {
            Check.due("nothing is plugged", x.pluggedAt(rail, 0), Check.NOT_FOUND);
        }
        Check.due("the text is empty", x.clearText(), 0);
        Check.due("there are no orders", x.play(), 0);
    }

    private static void promise2Room() {
        WokenRooms x = new WokenRooms();
        for (int i = 0; i < 8; i++) {
            Check.due("room", x.room(i % 2, i, 1 + i, 1 + i, i, i), i);
        }
        Check.due("a ninth room", x.room(0, 1, 1, 1, 1, 1), Check.LIMIT);
        Check.due("a wrong ninth room", x.room(2, 1, 1, 1, 1, 1), Check.INVALID);
        Check.due("rooms", x.count(0), 8);
        Check.due("kind", x.roomOf(3, 0), 1);
        Check.due("asleep", x.roomOf(3, 1), 0);
        Check.due("needs none", x.roomOf(3, 2), Check.NOT_FOUND);
        Check.due("plugged into none", x.roomOf(3, 3), Check.NOT_FOUND);
        for (int what = 4; what <= 12; what++) {
            Check.due("roomOf 3 " + what, x.roomOf(3, what), 0);
        }
        Check.due("no gap", x.roomOf(3, 13), Check.NOT_FOUND);
    }

    private static void promise2Ranges() {
        int[] lowest = {0, 0, 1, 1, 0, 0};
        int[] highest = {1, 500, 20, 50, 50, 20};
        for (int i = 0; i < 6; i++) {
            int[] a = lowest.clone();
            a[i] = lowest[i] - 1;
            Check.due("too low " + i, add(new WokenRooms(), a), Check.INVALID);
            a[i] = Integer.MIN_VALUE;
            Check.due("lowest int " + i, add(new WokenRooms(), a), Check.INVALID);
            int[] b = highest.clone();
            b[i] = highest[i] + 1;
            Check.due("too high " + i, add(new WokenRooms(), b), Check.INVALID);
            b[i] = Integer.MAX_VALUE;
            Check.due("highest int " + i, add(new WokenRooms(), b), Check.INVALID);
        }
        WokenRooms x = new WokenRooms();
        Check.due("lowest", add(x, lowest), 0);
        Check.due("highest", add(x, highest), 1);
        Check.due("two changes", x.count(10), 2);
    }

    private static int add(WokenRooms x, int[] a) {
        return x.room(a[0], a[1], a[2], a[3], a[4], a[5]);
    }

    private static void promise3Need() {
        WokenRooms x = new WokenRooms();
        Check.plugged(x, 0, 2);
        Check.plugged(x, 0, 2);
        Check.plugged(x, 1, 2);
        Check.due("need", x.need(2, 1), 0);
        Check.due("need another", x.need(2, 0), 2);
        Check.due("needed", x.roomOf(2, 2), 0);
        Check.due("need the same", x.need(2, 0), 1);
        Check.due("need none", x.need(2, -1), 1);
        Check.due("needs none", x.roomOf(2, 2), Check.NOT_FOUND);
        Check.due("need none again", x.need(2, -1), 0);
        Check.due("need itself", x.need(1, 1), Check.INVALID);
        Check.due("need a higher one", x.need(1, 2), Check.INVALID);
        Check.due("other below -1", x.need(1, -2), Check.INVALID);
        Check.due("no such room", x.need(3, 0), Check.INVALID);
        Check.due("negative room", x.need(-1, -1), Check.INVALID);
        x.wake(1);
        Check.due("waking", x.need(1, 0), Check.NOT_POSSIBLE);
        Check.due("waking, to none", x.need(1, -1), Check.NOT_POSSIBLE);
        Check.due("wrong and waking", x.need(1, 1), Check.INVALID);
        Check.due("a needed one may wake", x.need(2, 1), 0);
    }

    private static void promise4Plug() {
        WokenRooms x = new WokenRooms();
        for (int i = 0; i < 6; i++) {
            x.room(i == 5 ? 1 : 0, 1, 1, 1, 1, 1);
        }
        Check.due("wrong rail", x.plug(0, 1), Check.NOT_POSSIBLE);
        Check.due("plug", x.plug(0, 0), 1);
        Check.due("plugged", x.roomOf(0, 3), 0);
        Check.due("plugged already", x.plug(0, 0), Check.NOT_POSSIBLE);
        Check.due("second", x.plug(2, 0), 2);
        Check.due("third", x.plug(1, 0), 3);
        Check.due("fourth", x.plug(3, 0), 4);
        Check.due("fifth", x.plug(4, 0), Check.LIMIT);
        Check.due("full and of another kind", x.plug(5, 0), Check.NOT_POSSIBLE);
        Check.due("full and plugged", x.plug(3, 0), Check.NOT_POSSIBLE);
        Check.due("memory", x.plug(5, 1), 1);
        Check.due("no rail 2", x.plug(4, 2), Check.INVALID);
        Check.due("no rail -1", x.plug(4, -1), Check.INVALID);
        Check.due("no room 6", x.plug(6, 0), Check.INVALID);
        Check.due("no room -1", x.plug(-1, 0), Check.INVALID);
    }

    private static void promise5Unplug() {
        WokenRooms x = new WokenRooms();
        Check.plugged(x, 0, 2);
        Check.plugged(x, 0, 2);
        Check.plugged(x, 1, 2);
        Check.due("unplug", x.unplug(0), 1);
        Check.due("plugged into none", x.roomOf(0, 3), Check.NOT_FOUND);
        Check.due("again", x.unplug(0), Check.NOT_POSSIBLE);
        x.wake(1);
        Check.due("waking", x.unplug(1), Check.NOT_POSSIBLE);
        x.tick(2);
        Check.due("awake", x.unplug(1), Check.NOT_POSSIBLE);
        x.sleep(1);
        Check.due("asleep again", x.unplug(1), 0);
        Check.due("the other rail is as it was", x.unplug(2), 0);
        Check.due("back", x.plug(0, 0), 1);
        Check.due("no room 3", x.unplug(3), Check.INVALID);
        Check.due("no room -1", x.unplug(-1), Check.INVALID);
    }

    private static void promise6Limit() {
        WokenRooms x = new WokenRooms();
        Check.due("limit 0", x.limit(0, 4), 2);
        Check.due("limit 0 again", x.limit(0, 3), 4);
        Check.due("limit 1", x.limit(1, 1), 2);
        Check.due("count 20", x.count(20), 3);
        Check.due("count 21", x.count(21), 1);
        Check.due("too few", x.limit(0, 0), Check.INVALID);
        Check.due("too many", x.limit(0, 5), Check.INVALID);
        Check.due("no rail 2", x.limit(2, 1), Check.INVALID);
        Check.due("no rail -1", x.limit(-1, 1), Check.INVALID);
        for (int i = 0; i < 4; i++) {
            Check.plugged(x, 0, 2);
        }
        x.wake(0);
        x.wake(1);
        Check.due("below those that are waking", x.limit(0, 1), 3);
        Check.due("no more of them", x.wake(2), Check.NOT_POSSIBLE);
        x.tick(2);
        Check.due("both go on", x.count(5), 2);
        Check.due("then one", x.wake(2), 2);
        Check.due("not two", x.wake(3), Check.NOT_POSSIBLE);
    }

    private static void promise7Policy() {
        WokenRooms x = new WokenRooms();
        Check.plugged(x, 0, 2);
        Check.due("policy", x.policy(0, 99, 2), 0);
        Check.due("time-out", x.roomOf(0, 6), 99);
        Check.due("guess", x.roomOf(0, 7), 2);
        Check.due("another", x.policy(0, 7, 1), 992);
        Check.due("and back", x.policy(0, 0, 0), 71);
        Check.due("time-out 100", x.policy(0, 100, 0), Check.INVALID);
        Check.due("time-out -1", x.policy(0, -1, 0), Check.INVALID);
        Check.due("guess 3", x.policy(0, 0, 3), Check.INVALID);
        Check.due("guess -1", x.policy(0, 0, -1), Check.INVALID);
        Check.due("no room", x.policy(1, 0, 0), Check.INVALID);
        Check.due("room -1", x.policy(-1, 0, 0), Check.INVALID);
        x.wake(0);
        Check.due("also while it is waking", x.policy(0, 1, 1), 0);
    }

    private static void promise8RoomOf() {
        WokenRooms x = new WokenRooms();
        Check.plugged(x, 0, 3);
        Check.due("what 14", x.roomOf(0, 14), Check.INVALID);
        Check.due("what -1", x.roomOf(0, -1), Check.INVALID);
        Check.due("room 1", x.roomOf(1, 0), Check.INVALID);
        Check.due("room -1", x.roomOf(-1, 2), Check.INVALID);
        x.use(0, 0, 4);
        x.use(0, 20, 1);
        Check.due("planned", x.roomOf(0, 8), 2);
        x.tick(1);
        Check.due("waking", x.roomOf(0, 1), 1);
        Check.due("left", x.roomOf(0, 4), 2);
        Check.due("has not idled", x.roomOf(0, 5), 0);
        x.tick(2);
        Check.due("awake", x.roomOf(0, 1), 2);
        Check.due("nothing left", x.roomOf(0, 4), 0);
        x.tick(1);
        Check.due("in use", x.roomOf(0, 1), 3);
        Check.due("left of the use", x.roomOf(0, 4), 3);
        Check.due("one planned", x.roomOf(0, 8), 1);
        Check.due("begun", x.roomOf(0, 9), 1);
        Check.due("late", x.roomOf(0, 10), 3);
        Check.due("woken", x.roomOf(0, 11), 1);
        x.tick(5);
        Check.due("awake again", x.roomOf(0, 1), 2);
        Check.due("has idled", x.roomOf(0, 5), 2);
        x.sleep(0);
        Check.due("idles no more", x.roomOf(0, 5), 0);
        x.wake(0);
        Check.due("woken twice", x.roomOf(0, 11), 2);
    }

    /** "the ticks left while it is waking or in use, otherwise 0", "idled, while it is awake, otherwise 0" */
    private static void promise8LeftAndIdled() {
        WokenRooms x = new WokenRooms();
        Check.plugged(x, 0, 5);
        dueLeftAndIdled(x, "asleep", 0, 0);
        x.wake(0);
        dueLeftAndIdled(x, "waking", 5, 0);
        x.tick(4);
        dueLeftAndIdled(x, "waking", 1, 0);
        x.tick(1);
        dueLeftAndIdled(x, "awake", 0, 0);
        x.tick(6);
        dueLeftAndIdled(x, "awake", 0, 6);
        x.use(0, 11, 3);
        x.tick(1);
        dueLeftAndIdled(x, "in use", 2, 0);
        x.tick(2);
        dueLeftAndIdled(x, "awake", 0, 0);
        x.tick(4);
        dueLeftAndIdled(x, "awake", 0, 4);
        x.sleep(0);
        dueLeftAndIdled(x, "asleep", 0, 0);
        x.wake(0);
        dueLeftAndIdled(x, "waking", 5, 0);
        x.policy(0, 2, 0);
        x.tick(7);
        dueLeftAndIdled(x, "asleep by its time-out", 0, 0);
    }

    private static void dueLeftAndIdled(WokenRooms x, String when, int left, int idled) {
        Check.due("left, " + when, x.roomOf(0, 4), left);
        Check.due("idled, " + when, x.roomOf(0, 5), idled);
    }

    private static void promise8Called() {
        WokenRooms x = new WokenRooms();
        Check.plugged(x, 0, 3);
        x.room(0, 0, 1, 1, 0, 0);
        Check.due("no use", x.roomOf(0, 12), 0);
        x.policy(0, 0, 1);
        Check.due("no use to guess by", x.roomOf(0, 12), 0);
        x.use(0, 4, 1);
        Check.due("4 - 3 is later", x.roomOf(0, 12), 0);
        x.tick(1);
        Check.due("4 - 3 is now", x.roomOf(0, 12), 1);
        x.policy(0, 0, 0);
        Check.due("without the guess", x.roomOf(0, 12), 0);
        x.use(0, 1, 1);
        Check.due("due now, planned last", x.roomOf(0, 12), 1);
        Check.due("the other room", x.roomOf(1, 12), 0);
    }

    private static void promise8Gap() {
        WokenRooms x = new WokenRooms();
        Check.plugged(x, 0, 2);
        x.policy(0, 0, 2);
        x.wake(0);
        x.tick(2);
        x.use(0, 2, 3);
        x.use(0, 9, 2);
        x.tick(1);
        Check.due("one has begun", x.roomOf(0, 13), Check.NOT_FOUND);
        x.tick(2);
        Check.due("one has begun: not called by a gap", x.roomOf(0, 12), 0);
        x.tick(4);
        Check.due("not yet", x.roomOf(0, 13), Check.NOT_FOUND);
        x.tick(1);
        // The first use lasts from 2 to 5, the second from 9 to 11: the gap is 4, the call 11 + 4 - 2.
        Check.due("gap", x.roomOf(0, 13), 4);
        x.tick(2);
        Check.due("time 12", x.roomOf(0, 12), 0);
        x.tick(1);
        Check.due("time 13", x.roomOf(0, 12), 1);
        x.policy(0, 0, 1);
        Check.due("by the other guess", x.roomOf(0, 12), 0);
        x.policy(0, 0, 2);
        x.tick(1);
        Check.due("time 14", x.roomOf(0, 12), 0);
        x.use(0, 14, 50);
        x.tick(1);
        x.use(0, 64, 9);
        x.tick(50);
        Check.due("no gap between", x.roomOf(0, 13), 0);
        // 73 + 0 - 2 is inside the use, so that the guess does not call.
        x.tick(6);
        Check.due("in use at 71", x.roomOf(0, 1), 3);
        Check.due("not called in use", x.roomOf(0, 12), 0);
    }

    private static void promise9CostOf() {
        WokenRooms x = new WokenRooms();
        x.room(1, 500, 20, 50, 49, 19);
        int[] costs = {500, 20, 50, 49, 19};
        for (int what = 0; what < 5; what++) {
            Check.due("costOf " + what, x.costOf(0, what), costs[what]);
        }
        Check.due("what 5", x.costOf(0, 5), Check.INVALID);
        Check.due("what -1", x.costOf(0, -1), Check.INVALID);
        Check.due("no room", x.costOf(1, 0), Check.INVALID);
        Check.due("room -1", x.costOf(-1, 0), Check.INVALID);
    }

    private static void promise10PluggedAt() {
        WokenRooms x = new WokenRooms();
        int[] kinds = {1, 0, 0, 1, 0};
        for (int kind : kinds) {
            x.room(kind, 1, 1, 1, 1, 1);
        }
        x.plug(4, 0);
        x.plug(1, 0);
        x.plug(3, 1);
        Check.due("lowest", x.pluggedAt(0, 0), 1);
        Check.due("next", x.pluggedAt(0, 1), 4);
        Check.due("not so many", x.pluggedAt(0, 2), Check.NOT_FOUND);
        Check.due("memory", x.pluggedAt(1, 0), 3);
        Check.due("not so many there", x.pluggedAt(1, 1), Check.NOT_FOUND);
        Check.due("far behind", x.pluggedAt(1, Integer.MAX_VALUE), Check.NOT_FOUND);
        x.plug(0, 1);
        Check.due("room 0 is lowest", x.pluggedAt(1, 0), 0);
        x.unplug(0);
        Check.due("lowest without it", x.pluggedAt(1, 0), 3);
        Check.due("index -1", x.pluggedAt(0, -1), Check.INVALID);
        Check.due("no rail 2", x.pluggedAt(2, 0), Check.INVALID);
        Check.due("no rail -1", x.pluggedAt(-1, 0), Check.INVALID);
    }
}
