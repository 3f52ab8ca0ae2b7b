import java.lang.reflect.Constructor;
import java.lang.reflect.Executable;
import java.lang.reflect.Field;
import java.lang.reflect.Method;
import java.lang.reflect.Modifier;
import java.util.Set;
import java.util.TreeSet;

/** The face of the document, its constants, and promise 1. */
final class FaceTest {
    private static final String INDEX = " IndexOutOfBoundsException";
    private static final String ARGUMENT = " IllegalArgumentException";
    private static final String STATE = " IllegalStateException";

    public static void main(String[] args) {
        face();
        constants();
        newObject();
        objectsShareNothing();
        Due.end();
    }

    private static void face() {
        Set<String> due = new TreeSet<>();
        due.add("LampRhythms()");
        due.add("int phase(int)" + ARGUMENT + STATE);
        due.add("int pattern()" + STATE);
        due.add("int period(int)" + INDEX);
        due.add("boolean areAlike(int,int)" + INDEX);
        due.add("boolean areAlikeBySeconds(int,int)" + INDEX);
        due.add("int lamp(int,int,int,int,int)" + INDEX + ARGUMENT + STATE);
        due.add("int change(int,int,int)" + INDEX + ARGUMENT);
        due.add("int fail(int,boolean)" + INDEX + STATE);
        due.add("boolean shines(int,int)" + INDEX + ARGUMENT);
        due.add("int sector(int,int,int)" + INDEX + ARGUMENT);
        due.add("boolean isSeen(int,int,int)" + INDEX + ARGUMENT);
        due.add("int common(int,int)" + INDEX);
        due.add("int clashes()");
        due.add("int notices()");
        due.add("int print()" + STATE);
        due.add("int correct(int,int)" + INDEX + ARGUMENT);
        due.add("int behind(int)" + INDEX);
        due.add("int shown(int,int)" + INDEX);
        due.add("int taken(int,int,int,int,int,int)" + INDEX + ARGUMENT);
        due.add("NONE");
        due.add("SEVERAL");
        Due.answer("the face", membersThatAreNotPrivate(), due);
        Due.answer("final", Modifier.isFinal(LampRhythms.class.getModifiers()), true);
    }

    private static Set<String> membersThatAreNotPrivate() {
        Set<String> found = new TreeSet<>();
        for (Field field : LampRhythms.class.getDeclaredFields()) {
            if (!Modifier.isPrivate(field.getModifiers())) {
                found.add(field.getName());
            }
        }
        for (Constructor<?> made : LampRhythms.class.getDeclaredConstructors()) {
            if (!Modifier.isPrivate(made.getModifiers())) {
                found.add(made.getName() + described(made));
            }
        }
        for (Method method : LampRhythms.class.getDeclaredMethods()) {
            if (!Modifier.isPrivate(method.getModifiers())) {
                found.add(method.getReturnType() + " " + method.getName() + described(method));
            }
        }
        return found;
    }

    private static String described(Executable called) {
        StringBuilder text = new StringBuilder("(");
        for (Class<?> type : called.getParameterTypes()) {
            text.append(text.length() > 1 ? "," : "").append(type);
        }
        text.append(")");
        for (Class<?> type : called.getExceptionTypes()) {
            text.append(" ").append(type.getSimpleName());
        }
        return text.toString();
    }

    private static void constants() {
        Due.answer("NONE", LampRhythms.NONE, -1);
        Due.answer("SEVERAL", LampRhythms.SEVERAL, -2);
    }

    private static void newObject() {
        LampRhythms x = new LampRhythms();
        Due.noSuch("period(0), new", () -> x.period(0));
        Due.noSuch("areAlike(0, 0), new", () -> x.areAlike(0, 0));
        Due.noSuch("areAlikeBySeconds(0, 0), new", () -> x.areAlikeBySeconds(0, 0));
        Due.noSuch("lamp(0, 0, 0, 1, 1), new", () -> x.lamp(0, 0, 0, 1, 1));
        Due.noSuch("change(0, 0, 0), new", () -> x.change(0, 0, 0));
        Due.noSuch("fail(0, true), new", () -> x.fail(0, true));
        Due.noSuch("shines(0, 0), new", () -> x.shines(0, 0));
        Due.noSuch("sector(0, 0, 0), new", () -> x.sector(0, 0, 0));
        Due.noSuch("isSeen(0, 0, 0), new", () -> x.isSeen(0, 0, 0));
        Due.noSuch("common(0, 0), new", () -> x.common(0, 0));
        Due.answer("clashes(), new", x.clashes(), 0);
        Due.answer("notices(), new", x.notices(), 0);
        Due.noSuch("correct(0, 1), new", () -> x.correct(0, 1));
        Due.noSuch("behind(0), new", () -> x.behind(0));
        Due.noSuch("shown(0, 0), new", () -> x.shown(0, 0));
        Due.noSuch("taken(0, 0, 0, 0, 0, 1), new", () -> x.taken(0, 0, 0, 0, 0, 1));
        Due.badState("pattern(), new", () -> x.pattern());
        Due.answer("phase(1), new", x.phase(1), 1);
        Due.answer("print(), new", x.print(), 0);
        Due.answer("behind(0), new", x.behind(0), 0);
    }

    private static void objectsShareNothing() {
        LampRhythms one = new LampRhythms();
        LampRhythms other = new LampRhythms();
        Due.pattern(one, 1, 1);
        one.lamp(1, 1, 0, 5, 255);
        one.print();
        one.phase(3);
        Due.noSuch("period(0) of the other", () -> other.period(0));
        Due.noSuch("shines(0, 0) of the other", () -> other.shines(0, 0));
        Due.noSuch("behind(0) of the other", () -> other.behind(0));
        Due.answer("notices() of the other", other.notices(), 0);
        Due.answer("phase(3) of the other", other.phase(3), 1);
    }
}
