import java.lang.reflect.Constructor;
import java.lang.reflect.Field;
import java.lang.reflect.Method;
import java.lang.reflect.Modifier;
import java.util.Arrays;
import java.util.Map;
import java.util.TreeMap;
import java.util.TreeSet;

/** The public face: every constant, the constructor, every method with its throws clause, and no more. */
public final class FaceTest {
    private static final String PERSON_OR_CASE = " IndexOutOfBoundsException";
    private static final String ARGUMENT = " IllegalArgumentException";
    private static final String STATE = " IllegalStateException";

    private static int wrong = 0;

    private static void due(String what, Object got, Object want) {
        if (!want.equals(got)) {
            wrong++;
            System.out.println(what + " is " + got + ", due is " + want);
        }
    }

    private static String names(Class<?>[] types) {
        StringBuilder names = new StringBuilder();
        for (Class<?> type : types) {
            names.append(' ').append(type.getSimpleName());
        }
        return names.toString();
    }

    private static Map<String, String> dueMethods() {
        Map<String, String> due = new TreeMap<>();
        due.put("person", "int( int)" + ARGUMENT + STATE);
        due.put("status", "void( int int)" + PERSON_OR_CASE + ARGUMENT);
        due.put("statusOn", "int( int int)" + PERSON_OR_CASE + ARGUMENT);
        due.put("isUnder", "boolean( int)" + PERSON_OR_CASE);
        due.put("command", "void( int int)" + PERSON_OR_CASE + ARGUMENT);
        due.put("isInChain", "boolean( int int)" + PERSON_OR_CASE);
        due.put("place", "void( boolean boolean)");
        due.put("pass", "int( int)" + ARGUMENT);
        due.put("type", "int( char)" + ARGUMENT + STATE);
        due.put("charge", "int( int int)" + PERSON_OR_CASE + ARGUMENT + STATE);
        due.put("caseIs", "int( int int)" + PERSON_OR_CASE + ARGUMENT);
        due.put("left", "int( int)" + PERSON_OR_CASE);
        due.put("stand", "boolean( int boolean)" + PERSON_OR_CASE);
        due.put("restrain", "int( int int)" + PERSON_OR_CASE + ARGUMENT);
        due.put("waive", "void( int)" + PERSON_OR_CASE);
        due.put("refuse", "void( int)" + PERSON_OR_CASE + STATE);
        due.put("punish", "void( int int int)" + PERSON_OR_CASE + ARGUMENT + STATE);
        due.put("setAside", "void( int int int)" + PERSON_OR_CASE + ARGUMENT + STATE);
        due.put("refer", "int( int int int)" + PERSON_OR_CASE + ARGUMENT + STATE);
        due.put("withdraw", "void( int)" + PERSON_OR_CASE + STATE);
        due.put("request", "void( int)" + PERSON_OR_CASE + STATE);
        due.put("detail", "int( int int)" + PERSON_OR_CASE + STATE);
        due.put("challenge", "int( int int)" + PERSON_OR_CASE + STATE);
        due.put("talk", "boolean( int int int)" + PERSON_OR_CASE);
        due.put("vote", "void( int int int int)" + PERSON_OR_CASE + ARGUMENT + STATE);
        due.put("close", "int( int)" + PERSON_OR_CASE + STATE);
        due.put("sentenceAnew", "int( int)" + PERSON_OR_CASE);
        due.put("act", "void( int int int)" + PERSON_OR_CASE + ARGUMENT + STATE);
        due.put("appeal", "void( int int int)" + PERSON_OR_CASE + ARGUMENT + STATE);
        due.put("rehear", "int( int int)" + PERSON_OR_CASE + STATE);
        return due;
    }

    private static Map<String, String> dueConstants() {
        Map<String, String> due = new TreeMap<>();
        due.put("NONE", "-1");
        String[][] rows = {
            {"CIVIL", "ACTIVE", "LEAVE", "PRISONER", "FOLLOWER"},
            {"CHARGED", "PUNISHED", "REFERRED", "TRIED", "ACTED", "CLOSED"},
            {"SUMMARY", "SPECIAL", "GENERAL"},
        };
        for (String[] row : rows) {
            for (int i = 0; i < row.length; i++) {
                due.put(row[i], String.valueOf(i));
            }
        }
        return due;
    }

    private static void lookAtMethods() {
        Map<String, String> got = new TreeMap<>();
        TreeSet<String> hidden = new TreeSet<>();
        for (Method method : MartialHall.class.getDeclaredMethods()) {
            if (Modifier.isPublic(method.getModifiers())) {
                due("the method " + method.getName() + " of an object", Modifier.isStatic(method.getModifiers()), false);
                String shape = method.getReturnType().getSimpleName() + "(" + names(method.getParameterTypes()) + ")"
                        + names(method.getExceptionTypes());
                due("another method " + method.getName(), got.put(method.getName(), shape) == null, true);
            } else {
                due(method.getName() + " private", Modifier.isPrivate(method.getModifiers()), true);
                hidden.add(method.getName());
            }
        }
        due("the methods", got, dueMethods());
        hidden.retainAll(got.keySet());
        due("the private names that are public ones", hidden, new TreeSet<String>());
    }

    private static void lookAtFields() throws IllegalAccessException {
        Map<String, String> got = new TreeMap<>();
        for (Field field : MartialHall.class.getDeclaredFields()) {
            int how = field.getModifiers();
            if (Modifier.isPublic(how)) {
                due(field.getName() + " static and final", Modifier.isStatic(how) && Modifier.isFinal(how), true);
                due(field.getName() + "'s type", field.getType(), int.class);
                got.put(field.getName(), String.valueOf(field.get(null)));
            } else {
                due(field.getName() + " private", Modifier.isPrivate(how), true);
            }
        }
        due("the constants", got, dueConstants());
    }

    public static void main(String[] args) throws IllegalAccessException {
        int how = MartialHall.class.getModifiers();
        due("the class public and final", Modifier.isPublic(how) && Modifier.isFinal(how), true);
        Constructor<?>[] constructors = MartialHall.class.getDeclaredConstructors();
        due("the constructors", constructors.length, 1);
        due("the constructor public", Modifier.isPublic(constructors[0].getModifiers()), true);
        due("the constructor's arguments", Arrays.toString(constructors[0].getParameterTypes()), "[]");
        lookAtMethods();
        lookAtFields();
        for (Class<?> inside : MartialHall.class.getDeclaredClasses()) {
            int its = inside.getModifiers();
            due(inside + " static, not public", Modifier.isStatic(its) && !Modifier.isPublic(its), true);
        }
        System.out.println(wrong == 0 ? "the face is as due" : wrong + " wrong");
        System.exit(wrong == 0 ? 0 : 1);
    }
}
