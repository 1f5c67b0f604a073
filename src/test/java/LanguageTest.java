import java.lang.reflect.Constructor;
import java.lang.reflect.Field;
import java.lang.reflect.Method;
import java.lang.reflect.Modifier;
import java.nio.file.Files;
import java.nio.file.Path;
import java.util.List;
import java.util.Map;
import java.util.Set;
import java.util.TreeMap;
import java.util.TreeSet;
import java.util.regex.Matcher;
import java.util.regex.Pattern;

/** The face of the class, and those rules of ../shared/LANGUAGE.md that can be seen without thinking. */
public final class LanguageTest {
    private static final Checks checks = new Checks();
    private static final String SOURCE = "src/main/java/BurningFields.java";

    private static final String FACE = "reset 2,setField 2,field 1,count 1,isSeen 2,undo 0,move 4,moves 1,moveAt 3,"
            + "regions 0,regionOf 1,regionInfo 2,value 1,lead 0,kept 1,positions 1,wins 1,outcome 0,outcomeOf 1,"
            + "bestMove 1,length 1,zugzwangs 0,type 1,clearText 0,fault 0,run 0";
    private static final String CONSTANTS = "INVALID_ARGUMENT=-1001,NOT_POSSIBLE=-1002,LIMIT_REACHED=-1003,"
            + "TOO_LARGE=-1004,NOT_FOUND=-1005,FREE=0,LEFT=1,RIGHT=2,BURNED=3,LEFT_WINS=0,RIGHT_WINS=1,"
            + "FIRST_WINS=2,SECOND_WINS=3";

    private static void face() throws IllegalAccessException {
        Set<String> names = new TreeSet<>();
        Set<String> want = new TreeSet<>(List.of(FACE.split(",")));
        for (Method method : BurningFields.class.getDeclaredMethods()) {
            boolean isPublic = Modifier.isPublic(method.getModifiers());
            String told = method.getName() + " " + method.getParameterCount();
            if (isPublic) {
                names.add(told);
                checks.holds(told + " answers an int", method.getReturnType() == int.class);
                checks.holds(told + " is no static one", !Modifier.isStatic(method.getModifiers()));
                for (Class<?> type : method.getParameterTypes()) {
                    checks.holds(told + " takes ints", type == int.class);
                }
            } else {
                checks.holds(told + " is private", Modifier.isPrivate(method.getModifiers()));
            }
        }
        checks.holds("the methods are " + want + ", not " + names, names.equals(want));
        Map<String, Integer> constants = new TreeMap<>();
        for (Field field : BurningFields.class.getDeclaredFields()) {
            if (Modifier.isPublic(field.getModifiers())) {
                checks.holds(field + " is a constant", Modifier.isStatic(field.getModifiers())
                        && Modifier.isFinal(field.getModifiers()) && field.getType() == int.class);
                constants.put(field.getName(), field.getInt(null));
            } else {
                checks.holds(field + " is private", Modifier.isPrivate(field.getModifiers()));
            }
        }
        for (String constant : CONSTANTS.split(",")) {
            String[] parts = constant.split("=");
            checks.holds(constant, Integer.valueOf(parts[1]).equals(constants.remove(parts[0])));
        }
        checks.holds("no other constants: " + constants, constants.isEmpty());
        Constructor<?>[] makers = BurningFields.class.getDeclaredConstructors();
        checks.holds("one public constructor", makers.length == 1 && Modifier.isPublic(makers[0].getModifiers())
                && makers[0].getParameterCount() == 0);
        checks.holds("public and final", Modifier.isPublic(BurningFields.class.getModifiers())
                && Modifier.isFinal(BurningFields.class.getModifiers()));
    }

    private static void classesInside() {
        Set<String> face = new TreeSet<>();
        for (String told : FACE.split(",")) {
            face.add(told.split(" ")[0]);
        }
        Class<?>[] classes = BurningFields.class.getDeclaredClasses();
        checks.holds("some twelve classes at most", classes.length < 12);
        for (Class<?> inside : classes) {
            checks.holds(inside + " is static", Modifier.isStatic(inside.getModifiers()));
            checks.holds(inside + " is not public", !Modifier.isPublic(inside.getModifiers())
                    && !Modifier.isProtected(inside.getModifiers()));
            for (Method method : inside.getDeclaredMethods()) {
                checks.holds(method + " bears no name of the face", !face.contains(method.getName()));
                checks.holds(method + " takes at most seven", method.getParameterCount() <= 7);
            }
            statics(inside);
        }
        statics(BurningFields.class);
    }

    private static void statics(Class<?> type) {
        int own = 0;
        for (Field field : type.getDeclaredFields()) {
            if (Modifier.isStatic(field.getModifiers())) {
                checks.holds(field + " is final", Modifier.isFinal(field.getModifiers()));
            } else {
                own++;
            }
        }
        checks.holds(type + " has some twenty fields at most", own <= 20);
    }

    private static void words() throws java.io.IOException {
        String source = Files.readString(Path.of(SOURCE));
        checks.holds("no package, no import", !Pattern.compile("(?m)^\\s*(package|import)\\b").matcher(source).find());
        String code = source.replaceAll("(?s)/\\*.*?\\*/", " ").replaceAll("//[^\n]*", " ");
        Matcher words = Pattern.compile("\\b(throw|throws|try|catch|finally|synchronized|assert|enum|native|volatile"
                + "|System|Random|Thread|Exception|hashCode|equals|toString|parallel|stream|Exact|NaN|while)\\b|->|::")
                .matcher(code);
        while (words.find()) {
            checks.holds("no '" + words.group() + "'", false);
        }
        Matcher loops = Pattern.compile("for \\((.*)\\) [{]").matcher(code);
        while (loops.find()) {
            String[] parts = loops.group(1).split(";");
            checks.holds("the loop '" + loops.group() + "' has a bound", parts.length == 3 && !parts[1].isBlank());
        }
        for (char c : source.toCharArray()) {
            if (c > 126) {
                checks.holds("no sign " + (int) c, false);
            }
        }
        int length = 0;
        for (String line : source.split("\n")) {
            length = line.matches("    (    )?\\S.*[{]") ? 0 : length + 1;
            checks.holds("methods stay short at: " + line, length <= 60 || !line.startsWith("        "));
        }
    }

    /** A run lives in one room: what is made is made by the constructor. */
    private static void room() {
        com.sun.management.ThreadMXBean memory =
                (com.sun.management.ThreadMXBean) java.lang.management.ManagementFactory.getThreadMXBean();
        long id = Thread.currentThread().getId();
        callAll(new BurningFields());
        BurningFields[] one = new BurningFields[1];
        long before = memory.getThreadAllocatedBytes(id);
        one[0] = new BurningFields();
        long made = memory.getThreadAllocatedBytes(id);
        callAll(one[0]);
        callAll(one[0]);
        long after = memory.getThreadAllocatedBytes(id);
        checks.holds("a new object takes some bytes: " + (made - before), made - before < 400_000);
        checks.holds("the calls make nothing: " + (after - made), after - made < 4_000);
    }

    private static void callAll(BurningFields x) {
        x.reset(5, 3);
        x.setField(0, 1);
        x.setField(1, 3);
        x.setField(5, 3);
        x.setField(6, 3);
        x.setField(14, 2);
        x.lead();
        x.value(1);
        x.outcome();
        x.reset(3, 2);
        x.setField(0, 1);
        x.setField(5, 2);
        x.zugzwangs();
        x.bestMove(1);
        x.length(2);
        x.outcomeOf(0);
        x.regionInfo(0, 0);
        x.moveAt(1, 2, 1);
        x.move(1, 0, 1, 2);
        x.clearText();
        for (char c : new char[] {'b', 'u', 'r', 'n', ' ', '3', ';'}) {
            x.type(c);
        }
        x.run();
        x.undo();
        x.value(0);
        x.kept(1);
    }

    public static void main(String[] args) throws Exception {
        face();
        classesInside();
        words();
        room();
        checks.end();
    }
}
