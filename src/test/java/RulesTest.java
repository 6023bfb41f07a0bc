import java.lang.reflect.Array;
import java.lang.reflect.Constructor;
import java.lang.reflect.Field;
import java.lang.reflect.Method;
import java.lang.reflect.Modifier;
import java.nio.file.Files;
import java.nio.file.Path;
import java.util.ArrayList;
import java.util.Arrays;
import java.util.Collections;
import java.util.IdentityHashMap;
import java.util.List;
import java.util.Set;
import java.util.TreeSet;
import java.util.regex.Matcher;
import java.util.regex.Pattern;

/** The public face of the document, and those rules of LANGUAGE.md that can be read off the class and its source. */
public final class RulesTest {
    private static final String[] FACE = {
        "int letter(int)", "int blank()", "int copy()", "int correct(int)", "int drop()", "int band(int)",
        "int of(int,int)", "int sign(int,int)", "int collate(int,int,int)", "int step(int,int,int)",
        "int reading(int,int)", "int states(int)", "int state(int,int)", "int far(int,int)", "int turned(int,int)",
        "int see(int,int,int,int)", "int unsee(int)", "int seen(int,int)", "int forme(int,int)", "int formes(int)",
        "int order(int)", "int count(int)", "long digest()"
    };
    private static final String[] CONSTANTS = {"NONE", "UNKNOWN", "OUTSIDE", "STATE", "FULL"};
    private static final int[] VALUES = {-1, -101, -102, -103, -104};
    /** The room of one run, in which each of 512 calls may make an object. */
    private static final int CALLS = 512, ROOM_OBJECTS = 600000, ROOM_ELEMENTS = 7300000;
    private static final String[] FORBIDDEN = {
        "\\bthrow\\b", "\\btry\\b", "\\bcatch\\b", "\\bsynchronized\\b", "\\bassert\\b", "\\bpackage\\b", "\\bprotected\\b",
        "->", "::", "Exact\\b", "\\bSystem\\.(?!arraycopy)", "\\bhashCode\\b", "\\bstatic \\{", "[^\\x00-\\x7f]"
    };
    private static int wrong = 0;

    public static void main(String[] args) throws Exception {
        checkFace();
        checkConstants();
        checkNested(StopPress.class);
        checkRoom();
        String source = Files.readString(Path.of(args.length > 0 ? args[0] : "src/main/java/StopPress.java"));
        checkSource(source);
        checkMaking(source);
        System.out.println(wrong == 0 ? "the rules are kept" : wrong + " rules are broken");
        if (wrong != 0) {
            System.exit(1);
        }
    }

    private static void expect(boolean holds, String text) {
        if (!holds) {
            wrong++;
            System.out.println(text);
        }
    }

    private static String signature(Method method) {
        List<String> parameters = new ArrayList<>();
        for (Class<?> type : method.getParameterTypes()) {
            parameters.add(type.getName());
        }
        return method.getReturnType().getName() + " " + method.getName() + "(" + String.join(",", parameters) + ")";
    }

    private static void checkFace() throws Exception {
        int mods = StopPress.class.getModifiers();
        expect(Modifier.isPublic(mods) && Modifier.isFinal(mods), "the class is not public and final");
        Set<String> due = new TreeSet<>(List.of(FACE));
        Set<String> names = new TreeSet<>();
        for (String line : FACE) {
            names.add(line.substring(line.indexOf(' ') + 1, line.indexOf('(')));
        }
        Set<String> found = new TreeSet<>();
        for (Method method : StopPress.class.getDeclaredMethods()) {
            if (Modifier.isPrivate(method.getModifiers())) {
                expect(!names.contains(method.getName()), "a private method bears a public name: " + method);
            } else {
                found.add(signature(method));
                expect(Modifier.isPublic(method.getModifiers()) && !Modifier.isStatic(method.getModifiers()), "not public: " + method);
            }
        }
        expect(found.equals(due), "methods " + found + " instead of " + due);
        Constructor<?>[] constructors = StopPress.class.getDeclaredConstructors();
        expect(constructors.length == 1 && constructors[0].getParameterCount() == 0, "constructors");
        expect(Modifier.isPublic(constructors[0].getModifiers()), "the constructor is not public");
        Set<String> constants = new TreeSet<>();
        for (Field field : StopPress.class.getDeclaredFields()) {
            if (!Modifier.isPrivate(field.getModifiers())) {
                constants.add(field.getName());
            }
        }
        expect(constants.equals(new TreeSet<>(List.of(CONSTANTS))), "constants " + constants);
    }

    /** By reflection, as a constant's value is copied into this test when it is compiled. */
    private static void checkConstants() throws Exception {
        for (int i = 0; i < CONSTANTS.length; i++) {
            Field field = StopPress.class.getField(CONSTANTS[i]);
            int mods = field.getModifiers();
            expect(Modifier.isStatic(mods) && Modifier.isFinal(mods) && field.getType() == int.class, "constant " + field);
            expect(((Number) field.get(null)).longValue() == VALUES[i], CONSTANTS[i] + " is " + field.get(null));
        }
    }

    /** How many objects and arrays are reached from an object, and how many fields and elements these have. */
    private static int[] roomOf(Object start) throws Exception {
        Set<Object> reached = Collections.newSetFromMap(new IdentityHashMap<>());
        List<Object> open = new ArrayList<>(List.of(start));
        int elements = 0;
        while (!open.isEmpty()) {
            Object next = open.remove(open.size() - 1);
            if (!reached.add(next)) {
                continue;
            }
            List<Object> parts = next.getClass().isArray() ? elementsOf(next) : fieldsOf(next);
            elements += parts.size();
            for (Object part : parts) {
                if (part != null && !(part instanceof Number) && !(part instanceof Boolean) && !(part instanceof Character)) {
                    open.add(part);
                }
            }
        }
        return new int[] {reached.size(), elements};
    }

    private static List<Object> elementsOf(Object array) {
        List<Object> parts = new ArrayList<>();
        for (int i = 0; i < Array.getLength(array); i++) {
            parts.add(Array.get(array, i));
        }
        return parts;
    }

    private static List<Object> fieldsOf(Object object) throws Exception {
        List<Object> parts = new ArrayList<>();
        for (Field field : object.getClass().getDeclaredFields()) {
            if (!Modifier.isStatic(field.getModifiers())) {
                field.setAccessible(true);
                parts.add(field.get(object));
            }
        }
        return parts;
    }

    private static void checkRoom() throws Exception {
        StopPress x = new StopPress();
        int[] room = roomOf(x);
        expect((long) room[0] * CALLS <= ROOM_OBJECTS, "an object takes " + room[0] + " objects and arrays");
        expect((long) room[1] * CALLS <= ROOM_ELEMENTS, "an object takes " + room[1] + " fields and elements");
        for (int i = 0; i < 6; i++) {
            x.letter('a' + i);
            x.copy();
            x.see(i, i, 0, 1);
            x.see(i, (i + 1) % 6, 1, 2);
        }
        x.digest();
        expect(Arrays.equals(room, roomOf(x)), "an object in use takes other room than a new one");
    }

    private static void checkNested(Class<?> type) {
        Class<?>[] nested = type.getDeclaredClasses();
        expect(nested.length <= 11, "too many classes: " + nested.length);
        List<Class<?>> all = new ArrayList<>(List.of(nested));
        all.add(type);
        for (Class<?> each : all) {
            int fields = 0;
            for (Field field : each.getDeclaredFields()) {
                boolean isStatic = Modifier.isStatic(field.getModifiers());
                expect(!isStatic || Modifier.isFinal(field.getModifiers()), "static and not final: " + field);
                fields += isStatic ? 0 : 1;
            }
            expect(fields <= 20, "too many fields in " + each);
            for (Method method : each.getDeclaredMethods()) {
                expect(method.getParameterCount() <= 7, "too many parameters: " + method);
            }
        }
        for (Class<?> each : nested) {
            expect(Modifier.isStatic(each.getModifiers()) && !Modifier.isPublic(each.getModifiers()), "nested " + each);
        }
    }

    private static void checkSource(String source) {
        String code = source.replaceAll("(?s)/\\*.*?\\*/", "").replaceAll("//[^\n]*", "");
        for (String word : FORBIDDEN) {
            Matcher matcher = Pattern.compile(word).matcher(code);
            expect(!matcher.find(), "the source has " + word);
        }
        int length = 0;
        for (String line : source.split("\n")) {
            expect(line.length() <= 120, "a long line: " + line);
            length = line.matches(" {4}( {4})?[a-z].*\\) \\{") ? 0 : length + 1;
            expect(length <= 60 || !line.matches(" {4}( {4})?\\}"), "a long method before: " + line);
        }
    }

    /** Objects and arrays are made by constructors and with fields alone, so that no other call makes one. */
    private static void checkMaking(String source) {
        boolean inConstructor = false;
        for (String line : source.split("\n")) {
            if (line.matches(" {4}( {4})?[^ /*}].*\\{")) {
                inConstructor = line.matches(" +(public )?[A-Z]\\w*\\(\\) \\{");
            }
            boolean makes = line.matches("[^/*]*\\bnew\\b.*");
            boolean isField = line.matches(" +private (static )?final .*");
            expect(!makes || isField || inConstructor, "a call makes an object: " + line);
        }
    }
}
