/**
 * The ranges of all arguments, promise by promise: the last number that is allowed and the first one that is not, on
 * both sides; behind a wrong one nothing has changed. What the allowed ones do is in the other tests.
 */
public final class EdgesTest {
    public static void main(String[] args) {
        promise2Room();
        promise3Need();
        promises4And5Plugging();
        promises6And7Settings();
        promises8To10Questions();
        promises11To13Uses();
        promises14To16Waking();
        promise16LastTime();
        promises17To20Shares();
        promise21Count();
        promises22To24Forecasts();
        promises26And28Texts();
        Check.end();
    }

    private static void promise2Room() {
        Check.range("kind", Chips::busy, 0, 1, (x, a) -> x.room(a, 0, 1, 1, 0, 0));
        Check.range("wakeCost", Chips::busy, 0, 500, (x, a) -> x.room(0, a, 1, 1, 0, 0));
        Check.range("wakeTime", Chips::busy, 1, 20, (x, a) -> x.room(0, 0, a, 1, 0, 0));
        Check.range("inUse", Chips::busy, 1, 50, (x, a) -> x.room(0, 0, 1, a, 0, 0));
        Check.range("awake", Chips::busy, 0, 50, (x, a) -> x.room(0, 0, 1, 1, a, 0));
        Check.range("asleep", Chips::busy, 0, 20, (x, a) -> x.room(0, 0, 1, 1, 0, a));
        int[][] ends = {{0, 0, 1, 1, 0, 0}, {1, 500, 20, 50, 50, 20}};
        for (int[] a : ends) {
            WokenRooms x = new WokenRooms();
            Check.due("all at an end", x.room(a[0], a[1], a[2], a[3], a[4], a[5]), 0);
            Check.due("kind", x.roomOf(0, 0), a[0]);
            for (int what = 0; what < 5; what++) {
                Check.due("costOf " + what, x.costOf(0, what), a[what + 1]);
            }
        }
    }

    private static void promise3Need() {
        Check.range("room that needs", Chips::busy, 0, 6, (x, a) -> x.need(a, -1));
        for (int i = 0; i < 8; i++) {
            int room = i;
            Check.range("needed by " + room, EdgesTest::eightAsleep, -1, room - 1, (x, a) -> x.need(room, a));
        }
        WokenRooms x = eightAsleep();
        for (int room = 1; room < 8; room++) {
            Check.due("the last lower one", x.need(room, room - 1), 0);
            Check.due("is needed", x.roomOf(room, 2), room - 1);
            Check.due("the lowest one", x.need(room, 0), room);
            Check.due("is needed", x.roomOf(room, 2), 0);
            Check.due("none", x.need(room, -1), 1);
            Check.due("is needed", x.roomOf(room, 2), Check.NOT_FOUND);
            Check.due("none again", x.need(room, -1), 0);
        }
    }

    private static WokenRooms eightAsleep() {
        WokenRooms x = new WokenRooms();
        for (int i = 0; i < 8; i++) {
            Check.due("room", x.room(i % 2, 10, 2, 5, 3, 1), i);
        }
        return x;
    }

    private static void promises4And5Plugging() {
        Check.range("room to plug", Chips::busy, 0, 6, (x, a) -> x.plug(a, 0));
        Check.range("rail to plug into", Chips::busy, 0, 1, (x, a) -> x.plug(4, a));
        Check.range("rail to plug into again", Chips::busy, 0, 1, (x, a) -> x.plug(0, a));
        Check.range("room to unplug", Chips::busy, 0, 6, WokenRooms::unplug);
        Check.range("room to plug of eight", EdgesTest::eightAsleep, 0, 7, (x, a) -> x.plug(a, a % 2));
    }

    private static void promises6And7Settings() {
        Check.range("rail to limit", Chips::busy, 0, 1, (x, a) -> x.limit(a, 1));
        Check.range("limit of rail 0", Chips::busy, 1, 4, (x, a) -> x.limit(0, a));
        Check.range("limit of rail 1", Chips::busy, 1, 4, (x, a) -> x.limit(1, a));
        Check.range("room with a policy", Chips::busy, 0, 6, (x, a) -> x.policy(a, 1, 1));
        Check.range("time-out", Chips::busy, 0, 99, (x, a) -> x.policy(0, a, 2));
        Check.range("guess", Chips::busy, 0, 2, (x, a) -> x.policy(0, 99, a));
        WokenRooms x = eightAsleep();
        for (int limit = 1; limit <= 4; limit++) {
            Check.due("limit before", x.limit(0, limit), limit == 1 ? 2 : limit - 1);
            Check.due("limit", x.count(20), limit);
            Check.due("the other one's", x.count(21), 2);
        }
        int[][] policies = {{0, 0}, {0, 1}, {0, 2}, {99, 0}, {99, 2}, {9, 1}, {10, 0}, {1, 0}};
        for (int i = 0; i < policies.length; i++) {
            int before = i == 0 ? 0 : 10 * policies[i - 1][0] + policies[i - 1][1];
            Check.due("policy before", x.policy(7, policies[i][0], policies[i][1]), before);
            Check.due("time-out", x.roomOf(7, 6), policies[i][0]);
            Check.due("guess", x.roomOf(7, 7), policies[i][1]);
        }
    }

    private static void promises8To10Questions() {
        Check.range("room of roomOf", Chips::busy, 0, 6, (x, a) -> x.roomOf(a, 0));
        Check.range("what of roomOf", Chips::busy, 0, 13, (x, a) -> x.roomOf(3, a));
        Check.range("what of roomOf of a new room", EdgesTest::eightAsleep, 0, 13, (x, a) -> x.roomOf(7, a));
        Check.range("room of costOf", Chips::busy, 0, 6, (x, a) -> x.costOf(a, 0));
        Check.range("what of costOf", Chips::busy, 0, 4, (x, a) -> x.costOf(3, a));
        Check.range("rail of pluggedAt", Chips::busy, 0, 1, (x, a) -> x.pluggedAt(a, 0));
        Check.range("empty rail of pluggedAt", EdgesTest::eightAsleep, 0, 1, (x, a) -> x.pluggedAt(a, 0));
        Check.refused("index -1", Chips::busy, Check.INVALID, x -> x.pluggedAt(0, -1));
        Check.refused("the lowest index", Chips::busy, Check.INVALID, x -> x.pluggedAt(1, Integer.MIN_VALUE));
        WokenRooms x = Chips.fullOfLogic();
        for (int index = 0; index < 6; index++) {
            Check.due("room of the full rail", x.pluggedAt(0, index), index < 4 ? index : Check.NOT_FOUND);
            Check.due("room of the other", x.pluggedAt(1, index), index < 2 ? 5 + index : Check.NOT_FOUND);
        }
    }

    private static void promises11To13Uses() {
        Check.range("room of a use", Chips::busy, 0, 6, (x, a) -> x.use(a, 10, 1));
        Check.range("time of a use", Chips::busy, 10, 50000, (x, a) -> x.use(0, a, 1));
        Check.range("time of a use at 50000", Chips::last, 50000, 50000, (x, a) -> x.use(0, a, 1));
        Check.range("length of a use", Chips::busy, 1, 50, (x, a) -> x.use(0, 10, a));
        Check.range("number of useOf", Chips::busy, 0, 6, (x, a) -> x.useOf(a, 0));
        Check.range("number of useOf of twelve", Chips::fullOfLogic, 0, 11, (x, a) -> x.useOf(a, 0));
        Check.range("what of useOf", Chips::busy, 0, 3, (x, a) -> x.useOf(0, a));
        Check.range("what of the last useOf", Chips::fullOfLogic, 0, 3, (x, a) -> x.useOf(11, a));
        Check.range("number of drop", Chips::busy, 0, 6, WokenRooms::drop);
        Check.range("number of drop of twelve", Chips::fullOfLogic, 0, 11, WokenRooms::drop);
        Check.refused("useOf without a use", Chips::fresh, Check.INVALID, x -> x.useOf(0, 0));
        WokenRooms x = eightAsleep();
        Check.due("now, for 1 tick", x.use(0, 0, 1), 1);
        Check.due("at 50000, for 50 ticks", x.use(7, 50000, 50), 2);
        Check.due("its room", x.useOf(1, 0), 7);
        Check.due("its time", x.useOf(1, 1), 50000);
        Check.due("its length", x.useOf(1, 2), 50);
    }

    private static void promises14To16Waking() {
        Check.range("room to wake", Chips::busy, 0, 6, WokenRooms::wake);
        Check.range("room to fall asleep", Chips::busy, 0, 6, WokenRooms::sleep);
        Check.range("ticks", Chips::busy, 1, 200, WokenRooms::tick);
        Check.range("ticks at 0", Chips::fresh, 1, 200, WokenRooms::tick);
        Check.range("ticks at 50000", Chips::last, 1, 200, WokenRooms::tick);
        Check.range("room to wake of eight", EdgesTest::eightAsleep, 0, 7, WokenRooms::wake);
    }

    private static WokenRooms at(int time) {
        WokenRooms x = new WokenRooms();
        Check.plugged(x, 0, 1);
        Check.passTo(x, time);
        return x;
    }

    private static void promise16LastTime() {
        int[] many = {1, 2, 199, 200};
        for (int ticks : many) {
            int time = 50000 - ticks;
            Check.due("the last " + ticks + " ticks", at(time).tick(ticks), 0);
            Check.refused(ticks + " ticks to 50001", () -> at(time + 1), Check.LIMIT, x -> x.tick(ticks));
        }
        WokenRooms x = at(49999);
        Check.due("the last tick", x.tick(1), 0);
        Check.due("time", x.count(2), 50000);
        Check.due("asleep all the time", x.energy(0, 3), 50000);
    }

    private static void promises17To20Shares() {
        Check.range("room of energy", Chips::busy, 0, 6, (x, a) -> x.energy(a, 0));
        Check.range("what of energy", Chips::busy, 0, 4, (x, a) -> x.energy(3, a));
        Check.range("room of lateBits", Chips::busy, 0, 6, WokenRooms::lateBits);
        Check.range("room of worthBits", Chips::busy, 0, 6, WokenRooms::worthBits);
    }

    private static void promise21Count() {
        Check.range("what of count", Chips::busy, 0, 11, WokenRooms::count);
        Check.range("what of count, limits", Chips::busy, 20, 21, WokenRooms::count);
        for (int what = 12; what < 20; what++) {
            int wrong = what;
            Check.refused("count " + what, Chips::busy, Check.INVALID, x -> x.count(wrong));
        }
    }

    private static void promises22To24Forecasts() {
        Check.range("ticks of ahead", Chips::busy, 1, 200, (x, a) -> x.ahead(a, 0));
        Check.range("ticks of ahead without rooms", Chips::fresh, 1, 200, (x, a) -> x.ahead(a, 2));
        Check.range("ticks of ahead at 50000", Chips::last, 1, 200, (x, a) -> x.ahead(a, 1));
        Check.range("what of ahead", Chips::busy, 0, 2, (x, a) -> x.ahead(200, a));
        Check.range("room of bestTimeOut", Chips::busy, 0, 6, (x, a) -> x.bestTimeOut(a, 1, 0));
        Check.range("ticks of bestTimeOut", Chips::busy, 1, 200, (x, a) -> x.bestTimeOut(0, a, 1));
        Check.range("ticks of bestTimeOut at 50000", Chips::last, 1, 200, (x, a) -> x.bestTimeOut(0, a, 1));
        Check.range("what of bestTimeOut", Chips::busy, 0, 1, (x, a) -> x.bestTimeOut(0, 200, a));
        Check.range("room of beginsIn", Chips::busy, 0, 6, WokenRooms::beginsIn);
    }

    private static void promises26And28Texts() {
        Check.range("character", Chips::busy, 32, 126, WokenRooms::type);
        Check.range("character of an empty text", Chips::fresh, 32, 126, WokenRooms::type);
        Check.range("what of fault", Chips::busy, 0, 2, WokenRooms::fault);
        Check.range("what of fault of an empty text", Chips::fresh, 0, 2, WokenRooms::fault);
        Check.range("what of fault of a faulty text", EdgesTest::faulty, 0, 2, WokenRooms::fault);
        for (int character = 32; character <= 126; character++) {
            WokenRooms x = new WokenRooms();
            Check.due("type " + character, x.type(character), 1);
        }
    }

    private static WokenRooms faulty() {
        WokenRooms x = Chips.busy();
        Check.write(x, "t1;w0;w0;");
        return x;
    }
}
