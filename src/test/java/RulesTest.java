import java.lang.management.ManagementFactory;
import java.lang.reflect.Constructor;
import java.lang.reflect.Field;
import java.lang.reflect.Method;
import java.lang.reflect.Modifier;
import java.nio.file.Files;
import java.nio.file.Path;
import java.util.HashSet;
import java.util.Set;
import java.util.TreeSet;
import java.util.regex.Matcher;
import java.util.regex.Pattern;

/** Rules of LANGUAGE.md that show in the class's text and face, and that no call makes an object. */
public final class RulesTest {
    private static final Check c = new Check();
    private static final Class<?> CLASS = DidITurnItOff.class;

    public static void main(String[] args) throws Exception {
        face();
        privateNames();
        nestedClasses();
        text();
        lengths();
        room();
        c.end("RulesTest");
    }

    private static String signature(Method method) {
        StringBuilder text = new StringBuilder(method.getReturnType() + " " + method.getName());
        for (Class<?> type : method.getParameterTypes()) text.append(' ').append(type);
        return text.toString();
    }

    /** Rule 1: the face is the document's, and nothing besides. */
    private static void face() throws Exception {
        String doc = Files.readString(Path.of("../shared/DOC.md"));
        Set<String> want = new TreeSet<>();
        Matcher line = Pattern.compile("(?m)^    public (int|long) (\\w+)\\((.*)\\);$").matcher(doc);
        while (line.find()) {
            String types = line.group(3).replaceAll("(\\w+) \\w+,? ?", " $1");
            want.add(line.group(1) + " " + line.group(2) + types);
        }
        Set<String> got = new TreeSet<>();
        for (Method method : CLASS.getDeclaredMethods()) {
            if (Modifier.isPrivate(method.getModifiers())) continue;
            c.holds("public: " + method, Modifier.isPublic(method.getModifiers()));
            got.add(signature(method));
        }
        c.due("methods of the face", 30, want.size());
        c.holds("the face is " + got + ", due is " + want, want.equals(got));
        Set<String> constants = new TreeSet<>();
        for (Field field : CLASS.getDeclaredFields()) {
            if (!Modifier.isPrivate(field.getModifiers())) constants.add(field.toString());
        }
        String head = "public static final ";
        c.holds("constants " + constants, constants.equals(Set.of(head + "int DidITurnItOff.NONE",
            head + "int DidITurnItOff.BAD", head + "int DidITurnItOff.STATE", head + "int DidITurnItOff.FULL",
            head + "long DidITurnItOff.NO")));
        c.due("NONE", -1, DidITurnItOff.NONE);
        c.due("BAD", -2, DidITurnItOff.BAD);
        c.due("STATE", -3, DidITurnItOff.STATE);
        c.due("FULL", -4, DidITurnItOff.FULL);
        c.due("NO", Long.MIN_VALUE, DidITurnItOff.NO);
        c.holds("final", Modifier.isFinal(CLASS.getModifiers()));
        Constructor<?>[] constructors = CLASS.getDeclaredConstructors();
        c.due("constructors", 1, constructors.length);
        c.holds("public constructor", Modifier.isPublic(constructors[0].getModifiers()));
    }

    /** Rules 1 and 11: no private method bears a public one's name; seven parameters at most. */
    private static void privateNames() {
        Set<String> names = new HashSet<>();
        for (Method method : CLASS.getMethods()) names.add(method.getName());
        for (Method method : CLASS.getDeclaredMethods()) {
            c.holds("parameters of " + method, method.getParameterCount() <= 7);
            if (Modifier.isPublic(method.getModifiers())) continue;
            c.holds("name of " + method, !names.contains(method.getName()));
        }
        for (Class<?> nested : CLASS.getDeclaredClasses()) {
            for (Method method : nested.getDeclaredMethods()) {
                c.holds("name of " + method, !names.contains(method.getName()));
                c.holds("parameters of " + method, method.getParameterCount() <= 7);
            }
        }
    }

    /** Rules 1, 2, 5 and 11: nested classes are static and few, of few fields; static fields are final. */
    private static void nestedClasses() {
        c.holds("classes", CLASS.getDeclaredClasses().length < 12);
        for (Class<?> nested : CLASS.getDeclaredClasses()) {
            c.holds("static: " + nested, Modifier.isStatic(nested.getModifiers()));
            c.holds("not public: " + nested, !Modifier.isPublic(nested.getModifiers()));
            int fields = 0;
            for (Field field : nested.getDeclaredFields()) {
                if (Modifier.isStatic(field.getModifiers())) c.holds("final: " + field, Modifier.isFinal(field.getModifiers()));
                else fields++;
            }
            c.holds("fields of " + nested, fields <= 20);
        }
        for (Field field : CLASS.getDeclaredFields()) {
            if (Modifier.isStatic(field.getModifiers())) c.holds("final: " + field, Modifier.isFinal(field.getModifiers()));
        }
    }

    /** Rules 4, 6, 10 and 13: words and signs that must not stand in the text outside comments. */
    private static void text() throws Exception {
        String text = Files.readString(Path.of("src/main/java/DidITurnItOff.java")).replaceAll("(?m)//.*$", "");
        for (String word : new String[] {"throw", "throws", "try", "catch", "finally", "synchronized", "assert", "import",
            "package", "System", "Random", "Thread", "Exception", "Object", "instanceof", "while", "static \\{", "->", "::"}) {
            boolean isWord = Character.isLetter(word.charAt(0)) && Character.isLetter(word.charAt(word.length() - 1));
            String pattern = isWord ? "\\b" + word + "\\b" : word;
            c.holds("no " + word, !Pattern.compile(pattern).matcher(text).find());
        }
        c.holds("signs 1 to 127", text.chars().allMatch(sign -> sign > 0 && sign < 128));
    }

    /** A length for a new array is a constant, or was held at 0 or more in the lines just above. */
    private static void lengths() throws Exception {
        String text = Files.readString(Path.of("src/main/java/DidITurnItOff.java")).replaceAll("(?m)//.*$", "");
        Matcher made = Pattern.compile("new \\w+\\[([^\\]]*)\\]").matcher(text);
        int arrays = 0;
        while (made.find()) {
            arrays++;
            String length = made.group(1);
            String above = text.substring(Math.max(0, made.start() - 200), made.start());
            boolean isConstant = length.matches("[A-Z_]+( \\+ 1)?");
            c.holds("length " + length, isConstant || above.contains("int " + length + " = Math.max(0, "));
        }
        c.holds("arrays are found", arrays > 10);
    }

    /** Rule 12 and the one room of all calls: what is made is made in the constructor. */
    private static void room() {
        var threads = (com.sun.management.ThreadMXBean) ManagementFactory.getThreadMXBean();
        if (!threads.isThreadAllocatedMemorySupported()) return;
        long id = Thread.currentThread().getId();
        DidITurnItOff x = new DidITurnItOff();
        for (int round = 0; round < 3; round++) everyCall(x);
        long before = threads.getThreadAllocatedBytes(id);
        for (int round = 0; round < 50; round++) everyCall(x);
        long made = threads.getThreadAllocatedBytes(id) - before;
        c.holds("calls made " + made + " bytes", made < 2000);
        before = threads.getThreadAllocatedBytes(id);
        for (int i = 0; i < 100; i++) new DidITurnItOff();
        made = threads.getThreadAllocatedBytes(id) - before;
        c.holds("an object takes " + made / 100 + " bytes", made < 100 * 12000);
    }

    private static final String TEXT = "worry 5;heed 6 k=1|u>4;haste 5 a>2&!(p=1);haste 9 d=6";

    private static void everyCall(DidITurnItOff x) {
        x.image();
        for (int kind = 0; kind <= 6; kind++) x.deed(kind, kind);
        for (int i = 0; i < TEXT.length(); i++) x.feed(TEXT.charAt(i));
        x.house();
        x.row(5, 0, 9);
        x.set(1, 2, 9);
        x.hurry(12);
        x.look(0);
        x.doubt(0, 9);
        x.pass(3);
        x.told(4);
        x.of(0, 8);
        x.on(60, 1);
        x.best(30, 0);
        x.renew(1, 8, 40);
        x.see(1, 20, false);
        x.hurries(0);
        x.firm(1, 1);
        x.alikes(1);
        x.odds(1, 60, 0);
        x.mean(1);
        x.plan(0, 0);
        x.done(0);
        x.book(0, 50);
        x.struck();
        x.act(4, 2, 5);
        x.trace(0);
        x.as(4, 1);
        x.count(6);
        x.undo();
    }
}
