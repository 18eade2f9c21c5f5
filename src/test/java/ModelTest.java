import java.util.ArrayDeque;
import java.util.ArrayList;
import java.util.Comparator;
import java.util.Deque;
import java.util.List;
import java.util.Optional;
import java.util.regex.Matcher;
import java.util.regex.Pattern;

/**
 * All promises in long runs of calls: each answer of the program is compared with that of a model,
 * which is written in another way: it copies everything, logs all uses and payments, and reads texts
 * by a pattern.
 */
public final class ModelTest {
    private static final int RUNS = 300;
    private static final int CALLS = 512;

    public static void main(String[] args) {
        int[] answers = new int[5];
        for (int run = 0; run < RUNS; run++) {
            play(run, answers);
        }
        // Runs in which everything is refused would compare nothing.
        for (int i = 0; i < answers.length; i++) {
            if (answers[i] < 2000) {
                throw new IllegalStateException("only " + answers[i] + " answers are " + (i == 0 ? "numbers" : -i));
            }
        }
    }

    private static void play(int run, int[] answers) {
        Dice dice = new Dice(run);
        WokenRooms program = new WokenRooms();
        Model model = new Model();
        List<String> calls = new ArrayList<>();
        int ready = 1 + dice.below(8);
        for (int i = 0; i < CALLS; i++) {
            int[] a = i < 2 * ready ? setUp(dice, i, ready) : any(dice, model);
            int got = Calls.ofProgram(program, a);
            int want = Calls.ofModel(model, a);
            calls.add(Calls.tell(a) + " = " + want);
            answers[want >= 0 ? 0 : -want]++;
            if (got != want) {
                System.out.println("run " + run + ", the last answer is " + got + " in the program:");
                calls.forEach(System.out::println);
                System.exit(1);
            }
        }
    }

    private static int[] setUp(Dice dice, int i, int ready) {
        if (i < ready) {
            return new int[] {0, dice.below(2), dice.below(4) * 20, 1 + dice.below(i % 2 == 0 ? 4 : 20),
                1 + dice.below(20), dice.below(20), dice.below(6)};
        }
        return new int[] {2, i - ready, dice.below(2)};
    }

    /** A call, mostly with arguments that may be possible. */
    private static int[] any(Dice dice, Model model) {
        int call = Calls.pick(dice);
        int room = dice.near(0, Math.max(0, model.now.rooms.size() - 1));
        int small = dice.near(0, 13);
        switch (Calls.NAMES[call]) {
            case "room":
                return new int[] {call, dice.near(0, 1), dice.near(0, 500), dice.near(1, 20), dice.near(1, 50),
                    dice.near(0, 50), dice.near(0, 20)};
            case "need":
                return new int[] {call, room, dice.near(-1, Math.max(0, room - 1))};
            case "plug":
                return new int[] {call, room, dice.near(0, 1)};
            case "limit":
                return new int[] {call, dice.near(0, 1), dice.near(1, 4)};
            case "policy":
                return new int[] {call, room, dice.below(3) == 0 ? dice.near(0, 99) : dice.near(0, 9), dice.near(0, 2)};
            case "roomOf":
                return new int[] {call, room, small};
            case "costOf":
            case "energy":
                return new int[] {call, room, dice.near(0, 4)};
            case "pluggedAt":
                return new int[] {call, dice.near(0, 1), dice.near(0, 4)};
            case "use":
                return new int[] {call, room, model.now.time + dice.near(0, dice.below(4) == 0 ? 350 : 40),
                    dice.near(1, dice.below(3) == 0 ? 50 : 6)};
            case "useOf":
                return new int[] {call, dice.near(0, Math.max(0, model.now.planned().size() - 1)), dice.near(0, 3)};
            case "drop":
                return new int[] {call, dice.near(0, Math.max(0, model.now.planned().size() - 1))};
            case "tick":
                return new int[] {call, dice.below(6) == 0 ? dice.near(1, 200) : dice.near(1, 9)};
            case "count":
                return new int[] {call, dice.below(5) == 0 ? dice.near(20, 21) : dice.near(0, 11)};
            case "ahead":
                return new int[] {call, dice.below(2) == 0 ? dice.near(1, 200) : dice.near(1, 20), dice.near(0, 2)};
            case "bestTimeOut":
                return new int[] {call, room, dice.below(2) == 0 ? dice.near(1, 200) : dice.near(1, 40),
                    dice.near(0, 1)};
            case "type":
                return new int[] {call, model.nextSign(dice)};
            case "fault":
                return new int[] {call, dice.near(0, 2)};
            default:
                return new int[] {call, room};
        }
    }

    /** Numbers that look random, the same in each run of the test. */
    private static final class Dice {
        private long state;

        Dice(int seed) {
            state = seed * 7919L + 17;
            below(2);
            below(2);
        }

        int below(int bound) {
            state = state * 6364136223846793005L + 1442695040888963407L;
            return (int) ((state >>> 33) % bound);
        }

        /** Mostly a number of the range, now and then one just outside. */
        int near(int lowest, int highest) {
            if (below(25) == 0) {
                return below(2) == 0 ? lowest - 1 : highest + 1;
            }
            return lowest + below(highest - lowest + 1);
        }
    }

    /** The calls by their numbers. */
    private static final class Calls {
        static final String[] NAMES = {"room", "need", "plug", "unplug", "limit", "policy", "roomOf", "costOf",
            "pluggedAt", "use", "useOf", "drop", "wake", "sleep", "tick", "energy", "shareBits", "lateBits",
            "worthBits", "count", "ahead", "bestTimeOut", "beginsIn", "undo", "type", "clearText", "fault", "play"};
        private static final int[] WEIGHTS = {3, 6, 8, 4, 3, 14, 40, 2,
            4, 24, 8, 3, 14, 10, 30, 10, 3, 3,
            2, 16, 8, 3, 6, 8, 60, 3, 10, 8};

        static int pick(Dice dice) {
            int sum = 0;
            for (int weight : WEIGHTS) {
                sum += weight;
            }
            int at = dice.below(sum);
            for (int i = 0; i < WEIGHTS.length; i++) {
                at -= WEIGHTS[i];
                if (at < 0) {
                    return i;
                }
            }
            return 0;
        }

        static String tell(int[] a) {
            StringBuilder out = new StringBuilder(NAMES[a[0]]);
            for (int i = 1; i < a.length; i++) {
                out.append(' ').append(a[i]);
            }
            return out.toString();
        }

        static int ofProgram(WokenRooms x, int[] a) {
            switch (NAMES[a[0]]) {
                case "room": return x.room(a[1], a[2], a[3], a[4], a[5], a[6]);
                case "need": return x.need(a[1], a[2]);
                case "plug": return x.plug(a[1], a[2]);
                case "unplug": return x.unplug(a[1]);
                case "limit": return x.limit(a[1], a[2]);
                case "policy": return x.policy(a[1], a[2], a[3]);
                case "roomOf": return x.roomOf(a[1], a[2]);
                case "costOf": return x.costOf(a[1], a[2]);
                case "pluggedAt": return x.pluggedAt(a[1], a[2]);
                case "use": return x.use(a[1], a[2], a[3]);
                case "useOf": return x.useOf(a[1], a[2]);
                case "drop": return x.drop(a[1]);
                case "wake": return x.wake(a[1]);
                case "sleep": return x.sleep(a[1]);
                case "tick": return x.tick(a[1]);
                case "energy": return x.energy(a[1], a[2]);
                case "shareBits": return x.shareBits();
                case "lateBits": return x.lateBits(a[1]);
                case "worthBits": return x.worthBits(a[1]);
                case "count": return x.count(a[1]);
                case "ahead": return x.ahead(a[1], a[2]);
                case "bestTimeOut": return x.bestTimeOut(a[1], a[2], a[3]);
                case "beginsIn": return x.beginsIn(a[1]);
                case "undo": return x.undo();
                case "type": return x.type(a[1]);
                case "clearText": return x.clearText();
                case "fault": return x.fault(a[1]);
                default: return x.play();
            }
        }

        static int ofModel(Model m, int[] a) {
            switch (NAMES[a[0]]) {
                case "undo": return m.undo();
                case "type": return m.type(a[1]);
                case "clearText": return m.clearText();
                case "fault": return m.fault(a[1]);
                case "play": return m.play();
                case "count": return m.count(a[1]);
                default: break;
            }
            World after = m.now.copy();
            Integer answer = change(after, a);
            if (answer == null) {
                return question(m.now, a);
            }
            if (answer >= 0) {
                m.change(after);
            }
            return answer;
        }

        private static Integer change(World w, int[] a) {
            switch (NAMES[a[0]]) {
                case "room": return w.room(a[1], a[2], a[3], a[4], a[5], a[6]);
                case "need": return w.need(a[1], a[2]);
                case "plug": return w.plug(a[1], a[2]);
                case "unplug": return w.unplug(a[1]);
                case "limit": return w.limit(a[1], a[2]);
                case "policy": return w.policy(a[1], a[2], a[3]);
                case "use": return w.use(a[1], a[2], a[3]);
                case "drop": return w.drop(a[1]);
                case "wake": return w.wake(a[1]);
                case "sleep": return w.sleep(a[1]);
                case "tick": return w.tick(a[1]);
                default: return null;
            }
        }

        private static int question(World w, int[] a) {
            switch (NAMES[a[0]]) {
                case "roomOf": return w.roomOf(a[1], a[2]);
                case "costOf": return w.costOf(a[1], a[2]);
                case "pluggedAt": return w.pluggedAt(a[1], a[2]);
                case "useOf": return w.useOf(a[1], a[2]);
                case "energy": return w.energy(a[1], a[2]);
                case "shareBits": return w.shareBits();
                case "lateBits": return w.lateBits(a[1]);
                case "worthBits": return w.worthBits(a[1]);
                case "ahead": return w.ahead(a[1], a[2]);
                case "bestTimeOut": return w.bestTimeOut(a[1], a[2], a[3]);
                default: return w.beginsIn(a[1]);
            }
        }
    }

    private enum State { ASLEEP, WAKING, AWAKE, IN_USE }

    /** A use, planned or begun. */
    private record Use(int room, int due, int length) {
    }

    private record Begun(Use use, int at) {
        int end() {
            return at + use.length();
        }
    }

    private static final class Cell {
        final int kind;
        final int[] costs;
        Integer needs;
        Integer rail;
        int timeOut;
        int guess;
        State state = State.ASLEEP;
        int left;
        int idled;
        int woken;
        int[] paid = new int[4];
        List<Begun> begun = new ArrayList<>();

        Cell(int kind, int[] costs) {
            this.kind = kind;
            this.costs = costs;
        }

        Cell copy() {
            Cell other = new Cell(kind, costs);
            other.needs = needs;
            other.rail = rail;
            other.timeOut = timeOut;
            other.guess = guess;
            other.state = state;
            other.left = left;
            other.idled = idled;
            other.woken = woken;
            other.paid = paid.clone();
            other.begun = new ArrayList<>(begun);
            return other;
        }

        int late() {
            return begun.stream().mapToInt(b -> b.at() - b.use().due()).sum();
        }

        Integer gap() {
            int n = begun.size();
            return n < 2 ? null : begun.get(n - 1).at() - begun.get(n - 2).end();
        }

        int energy() {
            return paid[0] + paid[1] + paid[2] + paid[3];
        }
    }

    /** Everything that the history records. */
    private static final class World {
        List<Cell> rooms = new ArrayList<>();
        List<Use> uses = new ArrayList<>();
        int[] limits = {2, 2};
        int time;

        World copy() {
            World other = new World();
            for (Cell cell : rooms) {
                other.rooms.add(cell.copy());
            }
            other.uses.addAll(uses);
            other.limits = limits.clone();
            other.time = time;
            return other;
        }

        List<Use> planned() {
            return uses;
        }

        private static boolean in(int x, int lowest, int highest) {
            return lowest <= x && x <= highest;
        }

        private boolean is(int room) {
            return in(room, 0, rooms.size() - 1);
        }

        int room(int kind, int cost, int ticks, int inUse, int awake, int asleep) {
            boolean right = in(kind, 0, 1) && in(cost, 0, 500) && in(ticks, 1, 20) && in(inUse, 1, 50)
                && in(awake, 0, 50) && in(asleep, 0, 20);
            if (!right) {
                return -1;
            }
            if (rooms.size() == 8) {
                return -3;
            }
            rooms.add(new Cell(kind, new int[] {cost, ticks, inUse, awake, asleep}));
            return rooms.size() - 1;
        }

        int need(int room, int other) {
            if (!is(room) || other < -1 || other >= room) {
                return -1;
            }
            Cell cell = rooms.get(room);
            if (cell.state != State.ASLEEP) {
                return -2;
            }
            int before = cell.needs == null ? 0 : cell.needs + 1;
            cell.needs = other == -1 ? null : Integer.valueOf(other);
            return before;
        }

        private List<Integer> on(int rail) {
            List<Integer> found = new ArrayList<>();
            for (int i = 0; i < rooms.size(); i++) {
                if (rooms.get(i).rail != null && rooms.get(i).rail == rail) {
                    found.add(i);
                }
            }
            return found;
        }

        int plug(int room, int rail) {
            if (!is(room) || !in(rail, 0, 1)) {
                return -1;
            }
            Cell cell = rooms.get(room);
            if (cell.rail != null || cell.kind != rail) {
                return -2;
            }
            if (on(rail).size() == 4) {
                return -3;
            }
            cell.rail = rail;
            return on(rail).size();
        }

        int unplug(int room) {
            if (!is(room)) {
                return -1;
            }
            Cell cell = rooms.get(room);
            if (cell.rail == null || cell.state != State.ASLEEP) {
                return -2;
            }
            int rail = cell.rail;
            cell.rail = null;
            return on(rail).size();
        }

        int limit(int rail, int most) {
            if (!in(rail, 0, 1) || !in(most, 1, 4)) {
                return -1;
            }
            int before = limits[rail];
            limits[rail] = most;
            return before;
        }

        int policy(int room, int timeOut, int guess) {
            if (!is(room) || !in(timeOut, 0, 99) || !in(guess, 0, 2)) {
                return -1;
            }
            Cell cell = rooms.get(room);
            int before = 10 * cell.timeOut + cell.guess;
            cell.timeOut = timeOut;
            cell.guess = guess;
            return before;
        }

        int roomOf(int room, int what) {
            if (!is(room) || !in(what, 0, 13)) {
                return -1;
            }
            Cell cell = rooms.get(room);
            Object[] answers = {cell.kind, cell.state.ordinal(), cell.needs, cell.rail,
                cell.state == State.WAKING || cell.state == State.IN_USE ? cell.left : 0,
                cell.state == State.AWAKE ? cell.idled : 0, cell.timeOut, cell.guess,
                (int) uses.stream().filter(u -> u.room() == room).count(), cell.begun.size(), cell.late(),
                cell.woken, called(room) ? 1 : 0, cell.gap()};
            return answers[what] == null ? -4 : (Integer) answers[what];
        }

        int costOf(int room, int what) {
            return is(room) && in(what, 0, 4) ? rooms.get(room).costs[what] : -1;
        }

        int pluggedAt(int rail, int index) {
            if (!in(rail, 0, 1) || index < 0) {
                return -1;
            }
            return index < on(rail).size() ? on(rail).get(index) : -4;
        }

        int use(int room, int due, int length) {
            if (!is(room) || !in(due, time, 50000) || !in(length, 1, 50)) {
                return -1;
            }
            if (uses.size() == 12) {
                return -3;
            }
            uses.add(new Use(room, due, length));
            return uses.size();
        }

        private Optional<Use> first(int room) {
            return uses.stream().filter(u -> u.room() == room).min(Comparator.comparingInt(Use::due));
        }

        private int place(Use use) {
            for (int i = 0; i < uses.size(); i++) {
                if (uses.get(i) == use) {
                    return i;
                }
            }
            return -1;
        }

        int useOf(int number, int what) {
            if (!in(number, 0, uses.size() - 1) || !in(what, 0, 3)) {
                return -1;
            }
            Use use = uses.get(number);
            return new int[] {use.room(), use.due(), use.length(), first(use.room()).get() == use ? 1 : 0}[what];
        }

        int drop(int number) {
            return in(number, 0, uses.size() - 1) ? uses.remove(number).room() : -1;
        }

        private boolean called(int room) {
            Cell cell = rooms.get(room);
            Optional<Use> first = first(room);
            if (first.isPresent() && first.get().due() <= time) {
                return true;
            }
            int ticks = cell.costs[1];
            if (cell.guess == 1) {
                return first.isPresent() && first.get().due() - ticks <= time;
            }
            if (cell.guess != 2 || cell.gap() == null || cell.state == State.IN_USE) {
                return false;
            }
            return time == cell.begun.get(cell.begun.size() - 1).end() + cell.gap() - ticks;
        }

        private boolean ready(int room) {
            Integer needs = rooms.get(room).needs;
            return needs == null || rooms.get(needs).state.ordinal() >= 2;
        }

        int wake(int room) {
            if (!is(room)) {
                return -1;
            }
            Cell cell = rooms.get(room);
            if (cell.state != State.ASLEEP || cell.rail == null || !ready(room)) {
                return -2;
            }
            if (on(cell.rail).stream().filter(i -> rooms.get(i).state == State.WAKING).count() >= limits[cell.rail]) {
                return -2;
            }
            cell.paid[0] += cell.costs[0];
            cell.state = State.WAKING;
            cell.left = cell.costs[1];
            cell.woken++;
            return cell.costs[1];
        }

        private boolean needed(int room) {
            return rooms.stream().anyMatch(c -> c.needs != null && c.needs == room && c.state != State.ASLEEP);
        }

        int sleep(int room) {
            if (!is(room)) {
                return -1;
            }
            Cell cell = rooms.get(room);
            if (cell.state != State.AWAKE || needed(room)) {
                return -2;
            }
            cell.state = State.ASLEEP;
            return cell.idled;
        }

        int tick(int ticks) {
            if (!in(ticks, 1, 200)) {
                return -1;
            }
            if (time + ticks > 50000) {
                return -3;
            }
            return go(ticks);
        }

        private int go(int ticks) {
            int begun = 0;
            for (int i = 0; i < ticks; i++) {
                begun += step();
            }
            return begun;
        }

        private void seek(int room) {
            if (ready(room)) {
                wake(room);
            } else if (rooms.get(rooms.get(room).needs).state == State.ASLEEP) {
                seek(rooms.get(room).needs);
            }
        }

        private int step() {
            int begun = 0;
            for (int i = 0; i < rooms.size(); i++) {
                Cell cell = rooms.get(i);
                if (cell.state == State.ASLEEP && called(i)) {
                    seek(i);
                }
                Optional<Use> first = first(i);
                if (cell.state == State.AWAKE && first.isPresent() && first.get().due() <= time) {
                    uses.remove(place(first.get()));
                    cell.begun.add(new Begun(first.get(), time));
                    cell.state = State.IN_USE;
                    cell.left = first.get().length();
                    begun++;
                }
            }
            for (Cell cell : rooms) {
                if (cell.state == State.IN_USE) {
                    cell.paid[1] += cell.costs[2];
                } else if (cell.state == State.AWAKE) {
                    cell.paid[2] += cell.costs[3];
                } else if (cell.state == State.ASLEEP) {
                    cell.paid[3] += cell.costs[4];
                }
            }
            for (int i = 0; i < rooms.size(); i++) {
                Cell cell = rooms.get(i);
                if (cell.state == State.AWAKE) {
                    cell.idled++;
                    if (cell.timeOut != 0 && cell.idled >= cell.timeOut && !needed(i)) {
                        cell.state = State.ASLEEP;
                    }
                } else if (cell.state != State.ASLEEP && --cell.left == 0) {
                    cell.state = State.AWAKE;
                    cell.idled = 0;
                }
            }
            time++;
            return begun;
        }

        int paid() {
            return rooms.stream().mapToInt(Cell::energy).sum();
        }

        int late() {
            return rooms.stream().mapToInt(Cell::late).sum();
        }

        int begun() {
            return rooms.stream().mapToInt(c -> c.begun.size()).sum();
        }

        int energy(int room, int what) {
            if (!is(room) || !in(what, 0, 4)) {
                return -1;
            }
            return what == 4 ? rooms.get(room).energy() : rooms.get(room).paid[what];
        }

        int shareBits() {
            double used = rooms.stream().mapToInt(c -> c.paid[1]).sum();
            double all = paid();
            return all == 0 ? -4 : Float.floatToIntBits((float) (used / all));
        }

        int lateBits(int room) {
            if (!is(room)) {
                return -1;
            }
            Cell cell = rooms.get(room);
            float begun = cell.begun.size();
            return begun == 0 ? -4 : Float.floatToIntBits((float) cell.late() / begun);
        }

        int worthBits(int room) {
            if (!is(room)) {
                return -1;
            }
            int[] costs = rooms.get(room).costs;
            return costs[3] <= costs[4] ? -4 : Float.floatToIntBits((float) costs[0] / (float) (costs[3] - costs[4]));
        }

        int ahead(int ticks, int what) {
            if (!in(ticks, 1, 200) || !in(what, 0, 2)) {
                return -1;
            }
            World then = copy();
            int begun = then.go(ticks);
            return new int[] {then.paid() - paid(), then.late() - late(), begun}[what];
        }

        int bestTimeOut(int room, int ticks, int what) {
            if (!is(room) || !in(ticks, 1, 200) || !in(what, 0, 1)) {
                return -1;
            }
            int best = -1;
            int least = Integer.MAX_VALUE;
            for (int timeOut = 20; timeOut >= 0; timeOut--) {
                World then = copy();
                then.rooms.get(room).timeOut = timeOut;
                then.go(ticks);
                if (then.paid() - paid() <= least) {
                    best = timeOut;
                    least = then.paid() - paid();
                }
            }
            return what == 0 ? best : least;
        }

        int beginsIn(int room) {
            if (!is(room)) {
                return -1;
            }
            Optional<Use> first = first(room);
            World then = copy();
            for (int i = 0; first.isPresent() && i < 300; i++) {
                then.step();
                if (then.place(first.get()) == -1) {
                    return i;
                }
            }
            return -4;
        }

        int count(int what) {
            if (what >= 3 && what <= 6) {
                return (int) rooms.stream().filter(c -> c.state.ordinal() == what - 3).count();
            }
            return new int[] {rooms.size(), uses.size(), time, 0, 0, 0, 0, paid(), begun(), late()}[what];
        }
    }

    /** The world, its history and the text. */
    private static final class Model {
        private static final Pattern ORDER =
            Pattern.compile("(?:u(\\d{1,3}),(\\d{1,3}),(\\d{1,3})|([wst])(\\d{1,3}));");
        World now = new World();
        final Deque<World> history = new ArrayDeque<>();
        String text = "";
        String wanted = "";
        private int[] fault;
        private World played;
        private int orders;

        void change(World after) {
            history.addLast(now);
            if (history.size() > 4) {
                history.removeFirst();
            }
            now = after;
        }

        int undo() {
            if (history.isEmpty()) {
                return -2;
            }
            now = history.removeLast();
            return history.size();
        }

        int count(int what) {
            switch (what) {
                case 10: return history.size();
                case 11: return text.length();
                case 20: return now.limits[0];
                case 21: return now.limits[1];
                default: return what < 0 || what > 9 ? -1 : now.count(what);
            }
        }

        int type(int character) {
            if (character < 32 || character > 126) {
                return -1;
            }
            if (text.length() == 60) {
                return -3;
            }
            text += (char) character;
            return text.length();
        }

        int clearText() {
            int before = text.length();
            text = "";
            wanted = "";
            return before;
        }

        private void run() {
            fault = null;
            orders = 0;
            played = now.copy();
            Matcher matcher = ORDER.matcher(text);
            int at = 0;
            while (at < text.length()) {
                matcher.region(at, text.length());
                if (!matcher.lookingAt()) {
                    fault = new int[] {at, 1, -4};
                    return;
                }
                int answer = order(matcher);
                if (answer < 0) {
                    fault = new int[] {at, 2, answer};
                    return;
                }
                orders++;
                at = matcher.end();
            }
        }

        private int order(Matcher m) {
            if (m.group(4) == null) {
                return played.use(Integer.parseInt(m.group(1)), played.time + Integer.parseInt(m.group(2)),
                    Integer.parseInt(m.group(3)));
            }
            int number = Integer.parseInt(m.group(5));
            switch (m.group(4)) {
                case "w": return played.wake(number);
                case "s": return played.sleep(number);
                default: return played.tick(number);
            }
        }

        int fault(int what) {
            if (what < 0 || what > 2) {
                return -1;
            }
            run();
            return fault == null ? -4 : fault[what];
        }

        int play() {
            run();
            if (fault != null) {
                return -2;
            }
            change(played);
            return orders;
        }

        /** The next sign of an order that is being typed, now and then another one. */
        int nextSign(Dice dice) {
            if (dice.below(60) == 0) {
                return dice.near(32, 126);
            }
            if (wanted.isEmpty()) {
                wanted = order(dice);
            }
            int sign = wanted.charAt(0);
            wanted = wanted.substring(1);
            return sign;
        }

        private String order(Dice dice) {
            String zeros = dice.below(4) == 0 ? "00" : "";
            String room = zeros + dice.below(Math.max(1, now.rooms.size()));
            switch (dice.below(5)) {
                case 0: return "w" + room + ";";
                case 1: return "s" + room + ";";
                case 2: return "u" + room + "," + dice.below(60) + "," + dice.near(1, 9) + ";";
                case 3: return "t" + (1 + dice.below(210)) + ";";
                default: return "t" + zeros + (1 + dice.below(9)) + ";";
            }
        }
    }
}
