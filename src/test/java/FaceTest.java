import java.lang.management.ManagementFactory;
import java.lang.reflect.Array;
import java.lang.reflect.Executable;
import java.lang.reflect.Field;
import java.lang.reflect.Method;
import java.lang.reflect.Modifier;
import java.nio.file.Files;
import java.util.ArrayDeque;
import java.util.Arrays;
import java.util.Collections;
import java.util.Deque;
import java.util.IdentityHashMap;
import java.util.Set;
import java.util.TreeSet;

/** The public face to the letter, what one object holds, and that calls make no objects of their own. */
public final class FaceTest {
    private static final Due due = new Due();
    private static final String[] FACE = {
        "public SpectrumDesk()",
        "public void make(int) throws IllegalArgumentException",
        "public void put(int, int, int) throws IndexOutOfBoundsException, IllegalArgumentException",
        "public int at(int, int) throws IndexOutOfBoundsException",
        "public int size(int)",
        "public int data(int, int, int, int, int, int)",
        "public int spread()",
        "public int shift(int)",
        "public int characteristic(int)",
        "public int character(int)",
        "public int count(int, long, long, int) throws IllegalArgumentException",
        "public long cell(int, int) throws IndexOutOfBoundsException, IllegalArgumentException",
        "public int multiplicity(int) throws IndexOutOfBoundsException",
        "public int distinct()",
        "public boolean whole(int) throws IndexOutOfBoundsException",
        "public int apart()",
        "public int check()",
        "public static final int NONE",
        "public static final int LARGE"
    };

    public static void main(String[] args) {
        face();
        faceOfDocument();
        otherNames();
        room();
        calls();
        due.end();
    }

    private static void face() {
        Class<?> desk = SpectrumDesk.class;
        due.same("the class", Modifier.toString(desk.getModifiers()), "public final");
        due.same("it extends", desk.getSuperclass().getName(), "java.lang.Object");
        due.same("interfaces", desk.getInterfaces().length, 0);
        Set<String> got = new TreeSet<>();
        for (Executable e : desk.getDeclaredConstructors()) {
            got.add(told(e, ""));
        }
        for (Method m : desk.getDeclaredMethods()) {
            if (!Modifier.isPrivate(m.getModifiers())) {
                got.add(told(m, m.getReturnType().getSimpleName() + " "));
            }
        }
        for (Field f : desk.getDeclaredFields()) {
            if (!Modifier.isPrivate(f.getModifiers())) {
                got.add(Modifier.toString(f.getModifiers()) + " " + f.getType().getSimpleName() + " " + f.getName());
            }
        }
        due.same("the face", got.toString(), new TreeSet<>(Arrays.asList(FACE)).toString());
    }

    /** The list above against the document, whose lines have the names of arguments and the constants' values, too. */
    private static void faceOfDocument() {
        if (!Files.exists(Document.PLACE)) {
            return;
        }
        Set<String> written = new TreeSet<>();
        for (String line : new Markdown(Document.PLACE).code.get("The public face")) {
            if (line.endsWith(";")) {
                written.add(line.replaceAll("(int|long) \\w+(?=[,)])", "$1").replaceAll(" = .*|;", ""));
            }
        }
        due.same("the document's face", written.toString(), new TreeSet<>(Arrays.asList(FACE)).toString());
    }

    private static String told(Executable e, String type) {
        StringBuilder text = new StringBuilder(Modifier.toString(e.getModifiers()) + " " + type + e.getName() + "(");
        String between = "";
        for (Class<?> c : e.getParameterTypes()) {
            text.append(between).append(c.getSimpleName());
            between = ", ";
        }
        between = ") throws ";
        for (Class<?> c : e.getExceptionTypes()) {
            text.append(between).append(c.getSimpleName());
            between = ", ";
        }
        return text.append(e.getExceptionTypes().length == 0 ? ")" : "").toString();
    }

    /** LANGUAGE.md, rules 1, 2, 5 and 11, as far as reflection shows them. */
    private static void otherNames() {
        Set<String> open = new TreeSet<>();
        for (Method m : SpectrumDesk.class.getDeclaredMethods()) {
            if (Modifier.isPublic(m.getModifiers())) {
                due.yes(m.getName() + " stands once", open.add(m.getName()));
            }
        }
        for (Method m : SpectrumDesk.class.getDeclaredMethods()) {
            due.no("a private " + m.getName(), !Modifier.isPublic(m.getModifiers()) && open.contains(m.getName()));
        }
        due.yes("at most twelve classes", SpectrumDesk.class.getDeclaredClasses().length < 12);
        for (Class<?> c : SpectrumDesk.class.getDeclaredClasses()) {
            due.yes(c.getName() + " is static", Modifier.isStatic(c.getModifiers()));
            int fields = 0;
            for (Field f : c.getDeclaredFields()) {
                boolean fixed = Modifier.isStatic(f.getModifiers());
                due.yes(f + " is final if it is static", !fixed || Modifier.isFinal(f.getModifiers()));
                fields += fixed ? 0 : 1;
            }
            due.yes(c.getName() + " has at most 20 fields", fields <= 20);
            for (Method m : c.getDeclaredMethods()) {
                due.no(c.getName() + " has " + m.getName(), open.contains(m.getName()));
                due.yes(m + " has at most seven parameters", m.getParameterCount() <= 7);
            }
        }
    }

    /** Objects and elements of one desk: so few that 512 desks would still fit into one room. */
    private static void room() {
        Set<Object> seen = Collections.newSetFromMap(new IdentityHashMap<>());
        Deque<Object> open = new ArrayDeque<>();
        open.add(new SpectrumDesk());
        long elements = 0;
        while (!open.isEmpty()) {
            Object o = open.remove();
            if (seen.add(o)) {
                elements += o.getClass().isArray() ? elementsOf(o, open) : fieldsOf(o, open);
            }
        }
        System.out.println("one desk: " + seen.size() + " objects, " + elements + " fields and elements");
        due.yes("objects of one desk", seen.size() < 600000 / 512);
        due.yes("fields and elements of one desk", elements < 7300000 / 512);
    }

    private static long elementsOf(Object array, Deque<Object> open) {
        int length = Array.getLength(array);
        if (!array.getClass().getComponentType().isPrimitive()) {
            for (int i = 0; i < length; i++) {
                open.add(Array.get(array, i));
            }
        }
        return length;
    }

    private static long fieldsOf(Object o, Deque<Object> open) {
        long fields = 0;
        try {
            for (Field f : o.getClass().getDeclaredFields()) {
                if (!Modifier.isStatic(f.getModifiers())) {
                    fields++;
                    f.setAccessible(true);
                    if (!f.getType().isPrimitive()) {
                        open.add(f.get(o));
                    }
                }
            }
        } catch (IllegalAccessException e) {
            throw new IllegalStateException(e);
        }
        return fields;
    }

    private static void calls() {
        com.sun.management.ThreadMXBean threads =
            (com.sun.management.ThreadMXBean) ManagementFactory.getThreadMXBean();
        SpectrumDesk desk = new SpectrumDesk();
        dearest(desk, 1);
        long id = Thread.currentThread().getId();
        long before = threads.getThreadAllocatedBytes(id);
        dearest(desk, 5);
        long bytes = threads.getThreadAllocatedBytes(id) - before;
        System.out.println("5 rounds of all calls: " + bytes + " bytes");
        due.yes("calls make no objects", bytes < 2000);
    }

    private static void dearest(SpectrumDesk desk, int rounds) {
        for (int round = 0; round < rounds; round++) {
            desk.make(6);
            for (int i = 0; i < 36; i++) {
                desk.put(i / 6, i % 6, 1000000 - i * round);
            }
            for (int i = 0; i < 6; i++) {
                desk.cell(i, 30);
                desk.multiplicity(i);
                desk.whole(i);
                desk.characteristic(i);
                desk.count(6, i, Long.MAX_VALUE, i % 3);
            }
            desk.distinct();
            desk.apart();
            desk.check();
            desk.shift(-1000000);
            desk.data(1, 2, 3, 4, 5, round);
            desk.spread();
        }
    }
}
