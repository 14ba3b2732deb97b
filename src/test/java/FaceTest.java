import java.lang.reflect.Constructor;
import java.lang.reflect.Field;
import java.lang.reflect.Method;
import java.lang.reflect.Modifier;
import java.util.TreeSet;

/** The public face, and the parts of LANGUAGE.md that can be seen from outside. */
public final class FaceTest {
    private static final String[] METHODS = {
        "int create(int,int,int,int,int) throws Index,Argument,State",
        "int resize(int,int,int) throws Index,Argument,State",
        "int delete(int,int) throws Index,State",
        "int move(int,int,int,int) throws Index,State",
        "int setLimits(int,int,int,int) throws Index,Argument",
        "int setGrace(int,int) throws Index,Argument",
        "int restartGrace(int,int) throws Index,State",
        "int setExempt(int,boolean) throws Index",
        "int nextDays(int) throws Argument,State",
        "int appendText(int) throws Argument,State",
        "int clearText()",
        "int errorPosition()",
        "int runText() throws State",
        "int undo() throws State",
        "int save(int) throws Index",
        "int restore(int) throws Index,State",
        "int usage(int,int) throws Index",
        "int scannedUsage(int,int) throws Index",
        "int softLimit(int,int) throws Index",
        "int hardLimit(int,int) throws Index",
        "int graceStart(int,int) throws Index",
        "int graceLeft(int,int) throws Index",
        "int available(int,int) throws Index",
        "int refusals(int) throws Index",
        "int fewestDeletions(int) throws Index",
        "int sizeOf(int,int) throws Index",
        "int ownerOf(int,int) throws Index",
        "int groupOf(int,int) throws Index",
        "int fileCount()",
        "int directorySize(int) throws Index",
        "int largestFile(int) throws Index",
        "int ifCreated(int,int,int) throws Index,Argument",
        "int refusedOnDay(int,int,int) throws Index,Argument",
        "int day()",
        "int graceLength(int) throws Index",
        "boolean isExempt(int) throws Index",
        "int runningGraces()",
        "int overGraces()",
        "int event(int,int) throws Index,Argument",
        "int eventCount()",
        "int savedStates()",
        "int textLength()",
    };
    private static final String[] CONSTANTS = {
        "NONE", "UNLIMITED", "BLOCKS", "FILES", "STARTED", "CLEARED", "ENDED", "REFUSED",
    };

    public static void main(String[] args) {
        constants();
        openMethods();
        openFields();
        insideClasses();
        Check.end();
    }

    private static void constants() {
        Check.is("NONE", StorageQuotas.NONE, -1);
        Check.is("UNLIMITED", StorageQuotas.UNLIMITED, -2);
        Check.is("BLOCKS", StorageQuotas.BLOCKS, 0);
        Check.is("FILES", StorageQuotas.FILES, 1);
        Check.is("STARTED", StorageQuotas.STARTED, 1);
        Check.is("CLEARED", StorageQuotas.CLEARED, 2);
        Check.is("ENDED", StorageQuotas.ENDED, 3);
        Check.is("REFUSED", StorageQuotas.REFUSED, 4);
    }

    private static void openMethods() {
        TreeSet<String> due = new TreeSet<>(java.util.List.of(METHODS));
        TreeSet<String> got = new TreeSet<>();
        TreeSet<String> openNames = new TreeSet<>();
        for (Method method : StorageQuotas.class.getDeclaredMethods()) {
            if (!Modifier.isPrivate(method.getModifiers())) {
                got.add(describe(method));
                openNames.add(method.getName());
                Check.is(method.getName() + " is public", Modifier.isPublic(method.getModifiers()), true);
                Check.is(method.getName() + " is static", Modifier.isStatic(method.getModifiers()), false);
            }
        }
        Check.isSame("the methods", got.toString(), due.toString());
        Class<?>[] all = StorageQuotas.class.getDeclaredClasses();
        for (Method method : StorageQuotas.class.getDeclaredMethods()) {
            if (Modifier.isPrivate(method.getModifiers())) {
                Check.is(method.getName() + " bears a public name", openNames.contains(method.getName()), false);
            }
        }
        for (Class<?> inside : all) {
            for (Method method : inside.getDeclaredMethods()) {
                Check.is(method.getName() + " bears a public name", openNames.contains(method.getName()), false);
            }
        }
        Constructor<?>[] constructors = StorageQuotas.class.getDeclaredConstructors();
        Check.is("constructors", constructors.length, 1);
        Check.is("its parameters", constructors[0].getParameterCount(), 0);
        Check.is("it is public", Modifier.isPublic(constructors[0].getModifiers()), true);
        Check.is("the class is public and final", StorageQuotas.class.getModifiers(), Modifier.PUBLIC | Modifier.FINAL);
    }

    private static String describe(Method method) {
        StringBuilder b = new StringBuilder();
        b.append(method.getReturnType().getName()).append(' ').append(method.getName()).append('(');
        String between = "";
        for (Class<?> type : method.getParameterTypes()) {
            b.append(between).append(type.getName());
            between = ",";
        }
        b.append(')');
        between = " throws ";
        for (Class<?> type : method.getExceptionTypes()) {
            b.append(between).append(shortName(type));
            between = ",";
        }
        return b.toString();
    }

    private static String shortName(Class<?> type) {
        if (type == Check.INDEX) {
            return "Index";
        }
        if (type == Check.ARGUMENT) {
            return "Argument";
        }
        return type == Check.STATE ? "State" : type.getName();
    }

    private static void openFields() {
        TreeSet<String> got = new TreeSet<>();
        for (Field field : StorageQuotas.class.getDeclaredFields()) {
            int modifiers = field.getModifiers();
            if (!Modifier.isPrivate(modifiers)) {
                got.add(field.getName());
                Check.is(field.getName() + " is public, static and final", modifiers,
                        Modifier.PUBLIC | Modifier.STATIC | Modifier.FINAL);
                Check.is(field.getName() + " is an int", field.getType() == int.class, true);
            }
            if (Modifier.isStatic(modifiers)) {
                Check.is(field.getName() + " is final", Modifier.isFinal(modifiers), true);
            }
        }
        Check.isSame("the constants", got.toString(), new TreeSet<>(java.util.List.of(CONSTANTS)).toString());
    }

    private static void insideClasses() {
        Class<?>[] inside = StorageQuotas.class.getDeclaredClasses();
        Check.is("at most twelve classes", inside.length <= 11, true);
        for (Class<?> one : inside) {
            Check.is(one.getName() + " is static", Modifier.isStatic(one.getModifiers()), true);
            Check.is(one.getName() + " is public or protected",
                    (one.getModifiers() & (Modifier.PUBLIC | Modifier.PROTECTED)) != 0, false);
            for (Field field : one.getDeclaredFields()) {
                Check.is(one.getName() + " has a static field", Modifier.isStatic(field.getModifiers()), false);
            }
        }
    }
}
