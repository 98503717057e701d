import java.lang.reflect.Constructor;
import java.lang.reflect.Field;
import java.lang.reflect.Method;
import java.lang.reflect.Modifier;
import java.util.TreeSet;

/** The public face: its constants with their values, its calls with what they take, answer and throw, and nothing else. */
public final class FaceTest {
    private static final String[] CONSTANTS = {
        "NONE=-1", "SILENCE=-2",
        "RIGHT=0", "TOKEN=1", "HEADER=2", "UNEXPECTED=3", "DEEP=4", "ENDINGS=5", "UNCLOSED=6", "LONG=7", "SHORT=8", "TIE=9", "MANY=10",
        "CLEF=0", "KEY=1", "METER=2", "NOTE=3", "REST=4", "BAR=5", "OPEN=6", "CLOSE=7", "FIRST_OF=8", "LAST_OF=9",
        "AS_PRINTED=100",
        "TO_CLEF=0", "TO_PLACE=1", "TO_SIGN=2", "TO_TICKS=3", "TO_REST=4",
        "LENGTHS=0", "METERS=1", "HARSH=2", "CROSSED=3",
        "READY=0", "NO_COPY=1", "WRONG=2", "UNLIKE=3", "UNEVEN=4", "UNLEARNED=5"};
    /** I, A and S are the three exceptions, as they are listed. */
    private static final String[] CALLS = {
        "int write(int int char) IAS", "int strike(int int int) IAS", "int error(int int) I", "int errorAt(int int) I",
        "int tokens(int int) I", "int token(int int int) I", "int bars(int int) I", "int pitch(int int int int) I",
        "float seconds(int int int) IA", "int print(int int) IS", "int lend(int int) IS", "int back(int) IS",
        "int pencil(int int int int) IAS", "int holder(int) I", "int copyError(int) I", "int copyPitch(int int int) I",
        "int copyPitchAnew(int int int) I", "boolean begins(int int int) I", "int differ(int int) IAS", "int clashes(int int) I",
        "int clashesOf(int int) IA", "int day() ", "int room(int int) IA", "int ask(int int int int) IAS", "int plan() ",
        "int done(int) I", "int learned(int int int int) I", "int misled(int int int) I", "int judge(int) I",
        "int concert(int) IS", "int concerts() "};

    public static void main(String[] args) {
        Class<?> face = PartSongDesk.class;
        Check.due("public and final", () -> face.getModifiers(), Modifier.PUBLIC | Modifier.FINAL);
        Check.due("the constants", FaceTest::constants, new TreeSet<>(java.util.List.of(CONSTANTS)));
        Check.due("the calls", FaceTest::calls, new TreeSet<>(java.util.List.of(CALLS)));
        Check.due("one constructor", () -> face.getDeclaredConstructors().length, 1);
        for (Constructor<?> constructor : face.getDeclaredConstructors()) {
            Check.due("it is public", () -> constructor.getModifiers(), Modifier.PUBLIC);
            Check.due("it takes nothing", () -> constructor.getParameterCount(), 0);
        }
        for (Class<?> inside : face.getDeclaredClasses()) {
            Check.due(inside + " is private or package-visible", () -> inside.getModifiers() & (Modifier.PUBLIC | Modifier.PROTECTED), 0);
            Check.due(inside + " is static", () -> Modifier.isStatic(inside.getModifiers()), true);
        }
        Check.end("FaceTest");
    }

    /** All fields that are not private, and those that are no constants among them as they are. */
    private static TreeSet<String> constants() {
        TreeSet<String> all = new TreeSet<>();
        for (Field field : PartSongDesk.class.getDeclaredFields()) {
            if (Modifier.isPrivate(field.getModifiers())) {
                continue;
            }
            boolean isConstant = field.getModifiers() == (Modifier.PUBLIC | Modifier.STATIC | Modifier.FINAL) && field.getType() == int.class;
            all.add(isConstant ? field.getName() + "=" + value(field) : field.toString());
        }
        return all;
    }

    private static int value(Field field) {
        try {
            return field.getInt(null);
        } catch (IllegalAccessException e) {
            throw new IllegalStateException(e);
        }
    }

    private static TreeSet<String> calls() {
        TreeSet<String> all = new TreeSet<>();
        TreeSet<String> hidden = new TreeSet<>();
        for (Method method : PartSongDesk.class.getDeclaredMethods()) {
            if (Modifier.isPrivate(method.getModifiers())) {
                hidden.add(method.getName());
                continue;
            }
            StringBuilder row = new StringBuilder(method.getModifiers() == Modifier.PUBLIC ? "" : method.getModifiers() + " ");
            row.append(method.getReturnType()).append(' ').append(method.getName()).append('(');
            for (Class<?> type : method.getParameterTypes()) {
                row.append(row.charAt(row.length() - 1) == '(' ? "" : " ").append(type);
            }
            row.append(") ");
            for (Class<?> exception : method.getExceptionTypes()) {
                row.append(exception == IndexOutOfBoundsException.class ? "I" : exception == IllegalArgumentException.class ? "A"
                    : exception == IllegalStateException.class ? "S" : exception.getName());
            }
            all.add(row.toString());
        }
        for (Method method : PartSongDesk.class.getMethods()) {
            Check.due("no private method bears the name of the public " + method.getName(), () -> hidden.contains(method.getName()), false);
        }
        return all;
    }
}
