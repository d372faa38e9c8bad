import java.lang.reflect.Constructor;
import java.lang.reflect.Field;
import java.lang.reflect.Method;
import java.lang.reflect.Modifier;
import java.util.Arrays;
import java.util.Set;
import java.util.TreeSet;

/** The class shows the document's public face and no other member (LANGUAGE.md, rules 1, 2 and 5). */
public final class StepDebuggerFace {
    private static final Set<String> FACE = new TreeSet<>(Arrays.asList(
            "int FRESH = 0", "int DONE = 1", "int BREAK = 2", "int TIRED = 3", "int LOST = 4", "int FAULTED = 5",
            "int ENDED = 6", "StepDebugger()", "int emit(int, int, int)", "int length()", "int codeAt(int)",
            "void reset()", "boolean breakAt(int, boolean)", "int breakpoints()", "int step()", "int stepOver()",
            "int stepOut()", "int go()", "int goTo(int)", "int reason()", "int position()", "int peek(int)",
            "int depth()", "int steps()"));
    private static final Set<String> PLAIN = new TreeSet<>(Arrays.asList("int", "long", "short", "byte", "char",
            "boolean", "int[]", "long[]", "short[]", "byte[]", "char[]", "boolean[]"));

    private static int wrong = 0;

    public static void main(String[] args) throws IllegalAccessException {
        Class<?> type = StepDebugger.class;
        expect(Modifier.isPublic(type.getModifiers()) && Modifier.isFinal(type.getModifiers()), "public and final");
        expect(type.getSuperclass() == Object.class && type.getInterfaces().length == 0, "no supertype");
        expect(type.getDeclaredClasses().length == 0, "no nested class");
        Set<String> seen = new TreeSet<>();
        for (Field field : type.getDeclaredFields()) {
            lookAtField(field, seen);
        }
        for (Constructor<?> made : type.getDeclaredConstructors()) {
            seen.add("StepDebugger(" + list(made.getParameterTypes()) + ")");
            expect(Modifier.isPublic(made.getModifiers()), "a public constructor");
        }
        lookAtMethods(type.getDeclaredMethods(), seen);
        expect(seen.equals(FACE), "the face is " + FACE + ", seen " + seen);
        System.out.println(wrong == 0 ? "the face is as due" : wrong + " faults in the face");
        if (wrong != 0) {
            System.exit(1);
        }
    }

    private static void lookAtField(Field field, Set<String> seen) throws IllegalAccessException {
        int kind = field.getModifiers();
        String type = field.getType().getSimpleName();
        expect(PLAIN.contains(type), "the type of field " + field.getName());
        if (Modifier.isStatic(kind)) {
            expect(Modifier.isFinal(kind) && (type.equals("int") || type.equals("long")),
                    "static field " + field.getName() + " is a constant");
        }
        if (!Modifier.isPrivate(kind)) {
            expect(Modifier.isPublic(kind) && Modifier.isStatic(kind), "field " + field.getName() + " is private");
            seen.add(type + " " + field.getName() + " = " + field.get(null));
        }
    }

    private static void lookAtMethods(Method[] methods, Set<String> seen) {
        Set<String> shown = new TreeSet<>();
        for (Method method : methods) {
            if (!Modifier.isPrivate(method.getModifiers())) {
                shown.add(method.getName());
                expect(Modifier.isPublic(method.getModifiers()), "method " + method.getName() + " is public");
                expect(!Modifier.isStatic(method.getModifiers()), "method " + method.getName() + " is not static");
                expect(method.getExceptionTypes().length == 0, "method " + method.getName() + " declares no throws");
                seen.add(method.getReturnType().getSimpleName() + " " + method.getName()
                        + "(" + list(method.getParameterTypes()) + ")");
            }
        }
        for (Method method : methods) {
            if (Modifier.isPrivate(method.getModifiers())) {
                expect(!shown.contains(method.getName()), "private " + method.getName() + " has a public namesake");
            }
        }
    }

    private static String list(Class<?>[] types) {
        StringBuilder text = new StringBuilder();
        for (Class<?> type : types) {
            text.append(text.length() == 0 ? "" : ", ").append(type.getSimpleName());
        }
        return text.toString();
    }

    private static void expect(boolean holds, String what) {
        if (!holds) {
            wrong++;
            System.out.println("not so: " + what);
        }
    }
}
