import java.io.IOException;
import java.lang.management.ManagementFactory;
import java.lang.reflect.Constructor;
import java.lang.reflect.Field;
import java.lang.reflect.InvocationTargetException;
import java.lang.reflect.Member;
import java.lang.reflect.Method;
import java.lang.reflect.Modifier;
import java.nio.file.Files;
import java.nio.file.Path;
import java.util.Arrays;
import java.util.Comparator;
import java.util.TreeSet;
import java.util.regex.Pattern;

/** The face of the document, the rules of LANGUAGE.md that can be tested, and calls with any arguments. */
public final class FormTest {
    private static final String FACE = "ahead/2 beginsIn/1 bestTimeOut/3 clearText/0 costOf/2 count/1 drop/1 "
        + "energy/2 fault/1 lateBits/1 limit/2 need/2 play/0 plug/2 pluggedAt/2 policy/3 room/6 roomOf/2 "
        + "shareBits/0 sleep/1 tick/1 type/1 undo/0 unplug/1 use/3 useOf/2 wake/1 worthBits/1";
    private static final int[] EXTREMES = {Integer.MIN_VALUE, Integer.MIN_VALUE + 1, -50001, -2, -1, 0, 1, 2, 3, 7,
        8, 12, 20, 50, 59, 60, 126, 200, 300, 50000, 65536 + 119, Integer.MAX_VALUE - 1, Integer.MAX_VALUE};

    public static void main(String[] args) throws ReflectiveOperationException, IOException {
        constants();
        face();
        classesInside();
        words();
        anyArguments();
        objectsMade();
        Check.end();
    }

    private static void constants() {
        Check.due("INVALID_ARGUMENT", WokenRooms.INVALID_ARGUMENT, -1);
        Check.due("NOT_POSSIBLE", WokenRooms.NOT_POSSIBLE, -2);
        Check.due("LIMIT_REACHED", WokenRooms.LIMIT_REACHED, -3);
        Check.due("NOT_FOUND", WokenRooms.NOT_FOUND, -4);
    }

    private static boolean isPrivate(Member member) {
        return Modifier.isPrivate(member.getModifiers());
    }

    private static void right(String what, boolean is) {
        Check.due(what, is ? 1 : 0, 1);
    }

    private static void face() {
        right("public final class", WokenRooms.class.getModifiers() == (Modifier.PUBLIC | Modifier.FINAL));
        TreeSet<String> found = new TreeSet<>();
        for (Method method : WokenRooms.class.getDeclaredMethods()) {
            if (isPrivate(method)) {
                continue;
            }
            found.add(method.getName() + "/" + method.getParameterCount());
            right(method + " is public and of the object", method.getModifiers() == Modifier.PUBLIC);
            right(method + " answers an int", method.getReturnType() == int.class);
            for (Class<?> type : method.getParameterTypes()) {
                right(method + " takes ints", type == int.class);
            }
        }
        right("the face is " + found, String.join(" ", found).equals(FACE));
        Constructor<?>[] constructors = WokenRooms.class.getDeclaredConstructors();
        right("one public constructor", constructors.length == 1
            && constructors[0].getModifiers() == Modifier.PUBLIC && constructors[0].getParameterCount() == 0);
        int shown = 0;
        for (Field field : WokenRooms.class.getDeclaredFields()) {
            if (!isPrivate(field)) {
                shown++;
                right(field + " is a constant",
                    field.getModifiers() == (Modifier.PUBLIC | Modifier.STATIC | Modifier.FINAL));
            }
        }
        Check.due("public constants", shown, 4);
    }

    /** Rules 1 and 11, as far as the compiled classes show them; "some twenty" fields are up to 22 here. */
    private static void classesInside() {
        TreeSet<String> shown = new TreeSet<>();
        for (String call : FACE.split(" ")) {
            shown.add(call.substring(0, call.indexOf('/')));
        }
        for (Method method : WokenRooms.class.getDeclaredMethods()) {
            right(method + " has a name of its own", !isPrivate(method) || !shown.contains(method.getName()));
        }
        for (Class<?> inside : WokenRooms.class.getDeclaredClasses()) {
            right(inside + " is not shown", (inside.getModifiers() & (Modifier.PUBLIC | Modifier.PROTECTED)) == 0);
            long fields = Arrays.stream(inside.getDeclaredFields())
                .filter(field -> !Modifier.isStatic(field.getModifiers())).count();
            right(inside + " has some twenty fields at most", fields <= 22);
            for (Method method : inside.getDeclaredMethods()) {
                right(method + " has at most 7 parameters", method.getParameterCount() <= 7);
                right(method + " has a name of its own", !isPrivate(method) || !shown.contains(method.getName()));
            }
        }
        right("at most 12 classes", WokenRooms.class.getDeclaredClasses().length < 12);
    }

    /** No word in the program that the rules, or the words about what the machine throws, rule out. */
    private static void words() throws IOException {
        String source = Files.readString(Path.of("src/main/java/WokenRooms.java"));
        String code = source.replaceAll("(?s)/\\*.*?\\*/", "").replaceAll("//.*", "");
        for (int i = 0; i < code.length(); i++) {
            right("sign at " + i, code.charAt(i) < 128);
        }
        String[] ruledOut = {"\\bpackage\\b", "\\bfinally\\b", "\\bassert\\b", "\\bsynchronized\\b", "\\bprotected\\b",
            "(?m)^(?!\\s*(case|default)\\b).*->", "::", "\\bFloat\\b", "\\bDouble\\b", "\\bThread\\b", "\\bhashCode\\b",
            "\\bgetMessage\\b", "Exact\\b", "System\\.(?!arraycopy\\b)", "\\bjava\\.(?!util\\.)",
            "\\bjava\\.util\\.\\*",
            "while *\\(true", "for *\\(;;", "\\bArrayIndexOutOfBoundsException\\b", "\\bNullPointerException\\b",
            "\\bClassCastException\\b", "\\bNegativeArraySizeException\\b", "\\bArrayStoreException\\b",
            "\\bThrowable\\b", "catch *\\( *(final )?Exception\\b"};
        for (String word : ruledOut) {
            right("no " + word, !Pattern.compile(word).matcher(code).find());
        }
    }

    private static void anyArguments() throws ReflectiveOperationException {
        Method[] methods = Arrays.stream(WokenRooms.class.getDeclaredMethods()).filter(m -> !isPrivate(m))
            .sorted(Comparator.comparing(Method::getName)).toArray(Method[]::new);
        long dice = 1;
        for (int run = 0; run < 200; run++) {
            WokenRooms x = run % 4 == 0 ? new WokenRooms() : someRooms();
            for (int i = 0; i < 470; i++) {
                dice = dice * 6364136223846793005L + 1442695040888963407L;
                Method method = methods[(int) ((dice >>> 33) % methods.length)];
                Object[] arguments = new Object[method.getParameterCount()];
                for (int j = 0; j < arguments.length; j++) {
                    dice = dice * 6364136223846793005L + 1442695040888963407L;
                    arguments[j] = EXTREMES[(int) ((dice >>> 33) % EXTREMES.length)];
                }
                int answer;
                try {
                    answer = (Integer) method.invoke(x, arguments);
                } catch (InvocationTargetException e) {
                    answer = Integer.MIN_VALUE;
                    e.getCause().printStackTrace();
                }
                right(method.getName() + Arrays.toString(arguments) + " = " + answer, answer >= -4);
            }
        }
    }

    private static WokenRooms someRooms() {
        WokenRooms x = new WokenRooms();
        for (int i = 0; i < 8; i++) {
            Check.plugged(x, i % 2, 1 + i);
            x.use(i, 5 * i, 3);
            x.use(i, 9 * i, 3);
        }
        x.need(3, 2);
        x.need(2, 0);
        return x;
    }

    /** What a run makes is counted: the 600,000 objects that it may make would take 16 bytes each, or more. */
    private static void objectsMade() {
        dearCalls(new WokenRooms());
        WokenRooms x = new WokenRooms();
        com.sun.management.ThreadMXBean threads = (com.sun.management.ThreadMXBean) ManagementFactory.getThreadMXBean();
        long before = threads.getThreadAllocatedBytes(Thread.currentThread().getId());
        dearCalls(x);
        long made = threads.getThreadAllocatedBytes(Thread.currentThread().getId()) - before;
        right("bytes made by 504 calls: " + made, made < 16 * 600_000);
    }

    private static void dearCalls(WokenRooms x) {
        for (int i = 0; i < 8; i++) {
            x.room(i % 2, 10, 2, 5, 4, 1);
            x.plug(i, i % 2);
            x.use(i, 10, 5);
        }
        for (int i = 0; i < 20; i++) {
            x.type('t');
            x.type('9');
            x.type(';');
        }
        for (int i = 0; i < 60; i++) {
            x.bestTimeOut(i % 8, 200, 0);
            x.fault(0);
            x.play();
            x.ahead(200, 0);
            x.tick(7);
            x.undo();
            x.shareBits();
        }
    }
}
