import com.sun.management.ThreadMXBean;
import java.io.IOException;
import java.lang.management.ManagementFactory;
import java.lang.reflect.Constructor;
import java.lang.reflect.Field;
import java.lang.reflect.InvocationTargetException;
import java.lang.reflect.Method;
import java.lang.reflect.Modifier;
import java.nio.file.Files;
import java.nio.file.Path;
import java.util.Arrays;
import java.util.Comparator;
import java.util.Random;
import java.util.Set;
import java.util.TreeSet;

/** The public face, some rules of LANGUAGE.md that can be looked at, and that no call throws by itself. */
final class FaceTest {
    private static final Due DUE = new Due("FaceTest");
    private static final String[] FACE = {"int feed(int,int,int,int,int)", "int text(int)", "int fault(int)",
        "int named(int,int)", "int man(int,int)", "int sort(int,int)", "int deed(int)", "int sending(int,int)",
        "int want(int,int)", "int holds(int,int)", "int port(int,int)", "int can(int,int,int)", "long law(int,int,int)",
        "int send(int,int,int)", "boolean take(int)", "boolean swap(int,int,int)", "int lend(int,int)", "int go(int)",
        "int ahead(int,int,int)", "int first(int,int,int)", "int load(int)", "int order(int)", "int swaps()",
        "int together(int,int,int)", "int needs(int,int,int)", "int cheap(int,int,int)", "int rests(int,int,int)",
        "int rest(int,int,int,int)", "long calm(int,int)", "int whose(int,int)", "int those(int)",
        "int see(int,int,int,boolean)", "int out(int)", "boolean known(int)", "int rooms()", "int chance(int,int,int)",
        "int tried(int,int,int)", "int undo()", "int keep()", "int back()", "int count(int)"};

    public static void main(String[] args) throws Exception {
        theFace();
        theInside();
        theSource();
        roughCalls();
        noObjects();
        DUE.end();
    }

    private static String told(Method method) {
        StringBuilder told = new StringBuilder(method.getReturnType().getName()).append(' ').append(method.getName()).append('(');
        for (Class<?> type : method.getParameterTypes()) {
            told.append(told.charAt(told.length() - 1) == '(' ? "" : ",").append(type.getName());
        }
        return told.append(')').toString();
    }

    private static void theFace() throws Exception {
        Set<String> due = new TreeSet<>(Set.of(FACE));
        Set<String> got = new TreeSet<>();
        for (Method method : PartsFerry.class.getDeclaredMethods()) {
            if (!Modifier.isPrivate(method.getModifiers())) {
                got.add(told(method));
                DUE.is(told(method) + " is public", Modifier.isPublic(method.getModifiers()), true);
                DUE.is(told(method) + " is static", Modifier.isStatic(method.getModifiers()), false);
            }
        }
        DUE.is("the methods " + got, got.equals(due), true);
        DUE.is("NONE", PartsFerry.NONE, -1);
        for (Field field : PartsFerry.class.getDeclaredFields()) {
            boolean isPrivate = Modifier.isPrivate(field.getModifiers());
            DUE.is(field.getName() + " is private", isPrivate, !field.getName().equals("NONE"));
        }
        Constructor<?>[] made = PartsFerry.class.getDeclaredConstructors();
        DUE.is("constructors", made.length, 1);
        DUE.is("which is public", Modifier.isPublic(made[0].getModifiers()), true);
        int modifiers = PartsFerry.class.getModifiers();
        DUE.is("a public final class", Modifier.isFinal(modifiers) && Modifier.isPublic(modifiers), true);
        Method man = PartsFerry.class.getMethod("man", int.class, int.class);
        DUE.is("man names what it throws", man.getExceptionTypes().length, 2);
    }

    private static void theInside() {
        Set<String> names = new TreeSet<>();
        for (String method : FACE) {
            names.add(method.substring(method.indexOf(' ') + 1, method.indexOf('(')));
        }
        int classes = 1;
        for (Class<?> inside : PartsFerry.class.getDeclaredClasses()) {
            classes++;
            DUE.is(inside + " is static and private", Modifier.isStatic(inside.getModifiers())
                    && Modifier.isPrivate(inside.getModifiers()), true);
            for (Method method : inside.getDeclaredMethods()) {
                DUE.is(inside + " has " + method.getName() + ", as the face has", names.contains(method.getName()), false);
                DUE.is(method + " has seven parameters at most", method.getParameterCount() <= 7, true);
            }
            int fields = 0;
            for (Field field : inside.getDeclaredFields()) {
                fields += Modifier.isStatic(field.getModifiers()) ? 0 : 1;
            }
            DUE.is(inside + " has some twenty fields at most", fields <= 20, true);
        }
        DUE.is("some twelve classes at most", classes <= 12, true);
    }

    /** The tests run from the project's folder. */
    private static void theSource() throws IOException {
        String source = Files.readString(Path.of("src/main/java/PartsFerry.java"));
        for (String none : new String[] {"catch", "finally", "synchronized", "assert ", "->", "::", "Exact", "Random",
            "java.io", "java.time", "System.nano", "System.current", "Thread", "package ", "double", "float"}) {
            DUE.is("the source has " + none, source.contains(none), false);
        }
        String[] lines = source.split("\n");
        for (int i = 0; i < lines.length; i++) {
            if (lines[i].matches("( {4}| {8})(?!if|for|while|switch|else|do)[a-zA-Z].*\\(.*\\{")) {
                String end = lines[i].replaceFirst("[a-zA-Z].*", "}");
                int length = 1;
                while (!lines[i + length].equals(end)) {
                    length++;
                }
                DUE.is(lines[i] + " has " + length + " lines, more than some sixty", length > 60, false);
            }
        }
    }

    /** Calls with any numbers at all: but for man() none throws. */
    private static void roughCalls() throws Exception {
        Random random = new Random(5);
        Method[] methods = PartsFerry.class.getDeclaredMethods();
        Arrays.sort(methods, Comparator.comparing(FaceTest::told));
        for (int run = 0; run < 200; run++) {
            PartsFerry x = DUE.ferry(run % 4 == 0 ? "" : "man a 99;man b 70;sort s 2 3;sort t 5 9;deed d 3;deed e 1;send a s 0;send b s 0;"
                    + "want a d 0 0 9;want b e 1 1 5;storm " + run % 101 + ";law fare size*(day+1)/(aboard+1);law gain worth/day;");
            for (int call = 0; call < 400; call++) {
                Method method = methods[random.nextInt(methods.length)];
                if (Modifier.isPublic(method.getModifiers())) {
                    Object[] with = new Object[method.getParameterCount()];
                    for (int i = 0; i < with.length; i++) {
                        with[i] = method.getParameterTypes()[i] == boolean.class ? random.nextBoolean() : rough(random);
                    }
                    callOne(x, method, with);
                }
            }
        }
    }

    /** All calls of a run live in one room: none makes an object. Reflection would, so the calls stand in everyCall. */
    private static void noObjects() {
        PartsFerry[] ferries = new PartsFerry[20];
        for (int i = 0; i < ferries.length; i++) {
            ferries[i] = DUE.ferry("man a 99;man b 70;sort s 2 3;sort t 5 9;deed d 3;deed e 1;send a s 0;send b s 0;send a t 1;"
                    + "want a d 0 0 9;want b e 1 1 5;storm 60;law fare size*(day+1)/(aboard+1);law gain worth/day;law mix away>1;");
        }
        int[] fed = {0x6d616e20, 0x61203230, 0x3b20206c, 0x61772067, 0x61696e20};
        ThreadMXBean threads = (ThreadMXBean) ManagementFactory.getThreadMXBean();
        long answers = everyCall(ferries[0], fed);
        long before = threads.getCurrentThreadAllocatedBytes();
        // nine rounds of some fifty calls: an object is good for 512
        for (int round = 0; round < 9 * ferries.length; round++) {
            answers += everyCall(ferries[round % ferries.length], fed);
        }
        long made = threads.getCurrentThreadAllocatedBytes() - before;
        // what the machine itself makes now and then is less than the least object in each round
        DUE.is("bytes made by calls (" + answers + "), " + made + ", are few", made < 9 * ferries.length * 16, true);
    }

    private static long everyCall(PartsFerry x, int[] fed) {
        long sum = x.feed(fed[0], fed[1], fed[2], fed[3], fed[4]) + x.text(20) + x.fault(0) + x.named(0, 1 << 25);
        sum += x.man(0, 0) + x.sort(0, 0) + x.deed(0) + x.sending(0, 0) + x.want(0, 0) + x.holds(0, 0) + x.port(0, 0);
        sum += x.can(0, 0, 0) + x.law(0, 0, 0) + x.law(1, 0, 0) + x.law(2, 0, 0) + x.keep() + x.send(0, 0, 50);
        sum += (x.take(2) ? 1 : 0) + (x.swap(0, 1, 0) ? 1 : 0) + x.lend(0, 9) + x.undo() + x.go(3) + x.ahead(20, 0, 0);
        sum += x.first(0, 0, 1) + x.load(0) + x.order(4) + x.swaps() + x.together(0, 1, 0) + x.needs(0, 0, 1);
        sum += x.cheap(0, 0, 1) + x.rests(0, 1, 0) + x.rest(0, 1, 0, 0) + x.calm(3, 0) + x.whose(0, 0) + x.those(0);
        sum += x.see(3, 0, 0, true) + x.out(0) + (x.known(-1) ? 1 : 0) + x.rooms() + x.chance(7, 9, 1) + x.tried(5, 0, 20);
        return sum + x.back() + x.count(11);
    }

    private static Object rough(Random random) {
        switch (random.nextInt(6)) {
            case 0:
                return random.nextInt();
            case 1:
                return Integer.MIN_VALUE + random.nextInt(3);
            case 2:
                return Integer.MAX_VALUE - random.nextInt(3);
            case 3:
                return random.nextInt(120) - 10;
            default:
                return random.nextInt(4);
        }
    }

    private static void callOne(PartsFerry x, Method method, Object[] with) throws IllegalAccessException {
        try {
            method.invoke(x, with);
        } catch (InvocationTargetException e) {
            DUE.is(method.getName() + " throws " + e.getCause(), method.getName().equals("man"), true);
        }
    }
}
