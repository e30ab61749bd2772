import java.io.IOException;
import java.lang.reflect.Constructor;
import java.lang.reflect.Field;
import java.lang.reflect.Method;
import java.lang.reflect.Modifier;
import java.nio.file.Files;
import java.nio.file.Path;
import java.util.ArrayList;
import java.util.Arrays;
import java.util.List;
import java.util.Set;
import java.util.TreeSet;
import java.util.regex.Matcher;
import java.util.regex.Pattern;

/** What of LANGUAGE.md can be seen from outside: the face, the members, the words of the source. */
public final class LanguageTest {
    private static final Check CHECK = new Check();
    private static final String[] FACE = {
        "int write(int,long)", "int wipe()", "int fault()", "int lay()", "int roof(int,int)",
        "int thought(int,int)", "int now(int)", "int creak(int,boolean)", "int goes(int,int,int)",
        "int tell(int,int)", "int on(int,int)", "int sky(int)", "int noSkies()", "long loss(int)",
        "long over(int,int)", "long best(int,int)", "int first(int)", "long more(int,int)",
        "int prop(int)", "long instead(int,int)", "long look(int)", "int rain(int)",
        "int out(int,int,int,int,int)", "int night(int,int,int,int)", "int keep()", "int back()",
        "int count(int)"};

    private static void holds(String what, boolean good) {
        CHECK.due(what, good ? 1 : 0, 1);
    }

    public static void main(String[] args) throws IOException {
        face();
        for (Class<?> c : classes()) {
            members(c);
        }
        String source = withoutComments(Files.readString(Path.of("src/main/java/RoofsOfSnow.java")));
        words(source);
        lengths(source);
        neverThrows();
        CHECK.end();
    }

    private static List<Class<?>> classes() {
        List<Class<?>> all = new ArrayList<>(Arrays.asList(RoofsOfSnow.class.getDeclaredClasses()));
        all.add(RoofsOfSnow.class);
        return all;
    }

    private static void face() {
        Class<?> c = RoofsOfSnow.class;
        holds("public and final", c.getModifiers() == (Modifier.PUBLIC | Modifier.FINAL));
        Set<String> seen = new TreeSet<>();
        for (Method m : c.getDeclaredMethods()) {
            if (Modifier.isPublic(m.getModifiers())) {
                String types = Arrays.toString(Arrays.stream(m.getParameterTypes())
                        .map(Class::getName).toArray());
                seen.add(m.getReturnType() + " " + m.getName()
                        + types.replace(" ", "").replace('[', '(').replace(']', ')'));
            } else {
                holds("private: " + m, Modifier.isPrivate(m.getModifiers()));
            }
        }
        holds("the face: " + seen, seen.equals(new TreeSet<>(Arrays.asList(FACE))));
        for (Field f : c.getDeclaredFields()) {
            boolean constant = Set.of("BAD", "NO", "FULL", "NONE").contains(f.getName());
            holds("public or private: " + f,
                    constant ? Modifier.isPublic(f.getModifiers()) : Modifier.isPrivate(f.getModifiers()));
        }
        Constructor<?>[] made = c.getDeclaredConstructors();
        holds("one constructor", made.length == 1 && made[0].getParameterCount() == 0
                && Modifier.isPublic(made[0].getModifiers()));
        holds("some twelve classes", classes().size() <= 12);
    }

    private static void members(Class<?> c) {
        if (c != RoofsOfSnow.class) {
            holds("static: " + c, Modifier.isStatic(c.getModifiers()));
            holds("not public: " + c, !Modifier.isPublic(c.getModifiers()));
        }
        Set<String> names = new TreeSet<>();
        for (String call : FACE) {
            names.add(call.replaceAll(".* (.*)\\(.*", "$1"));
        }
        int fields = 0;
        for (Field f : c.getDeclaredFields()) {
            if (Modifier.isStatic(f.getModifiers())) {
                holds("final: " + f, Modifier.isFinal(f.getModifiers()));
            } else {
                fields++;
            }
        }
        holds("some twenty fields: " + c, fields <= 20);
        for (Method m : c.getDeclaredMethods()) {
            holds("seven parameters: " + m, m.getParameterCount() <= 7);
            holds("a name of its own: " + m,
                    c == RoofsOfSnow.class && Modifier.isPublic(m.getModifiers())
                            || !names.contains(m.getName()));
        }
    }

    private static String withoutComments(String source) {
        return source.replaceAll("(?s)/\\*.*?\\*/", "").replaceAll("//[^\n]*", "");
    }

    private static void words(String source) {
        for (String word : List.of("package ", "import ", "->", "::", "finally", "synchronized",
                "assert ", "try ", "catch", "throw ", "static {", "double", "float", "System.", "Thread",
                "Exact(", "hashCode", "toString", "var ")) {
            holds("without '" + word + "'", !source.contains(word));
        }
        Matcher library = Pattern.compile("\\b(Math|Long|Integer|Arrays)\\.(\\w+)").matcher(source);
        while (library.find()) {
            holds("told: " + library.group(),
                    Set.of("max", "min", "abs", "MAX_VALUE").contains(library.group(2)));
        }
        // A machine's array is reached in Row and in the tables of the Reader alone.
        Matcher arrays = Pattern.compile("new int\\[").matcher(source);
        int made = 0;
        while (arrays.find()) {
            made++;
        }
        CHECK.due("arrays made in Row alone", made, 1);
    }

    /** A method of the source ends where the brace at its own depth does. */
    private static void lengths(String source) {
        String[] lines = source.split("\n");
        int start = -1;
        String end = "";
        for (int i = 0; i < lines.length; i++) {
            Matcher head = Pattern.compile("^( +)[\\w\\[\\] ]+\\([^;]*\\) \\{$").matcher(lines[i]);
            if (start < 0 && head.matches()) {
                start = i;
                end = head.group(1) + "}";
            } else if (start >= 0 && lines[i].equals(end)) {
                holds("some sixty lines: " + lines[start].strip(), i - start < 60);
                start = -1;
            }
        }
        holds("methods seen", start < 0);
    }

    /** Numbers far off at each call, in any order, on villages whose ROOFS stand and are GONE. */
    private static void neverThrows() {
        int[] odd = {0, 1, 2, 3, 8, -1, 15, 16, 255, Integer.MAX_VALUE, Integer.MIN_VALUE, -2, 1 << 30};
        RoofsOfSnow[] all = {new RoofsOfSnow(),
            Check.laid("r9,0,0,9,0,8;b0,8,10;"),
            Check.laid("r200,200,20,999,999,7;" + "r200,0,20,999,999,0;".repeat(7) + "p7,99;l999;"
                    + "k0,60,60,9;k1,60,60,9;k2,60,60,9;h9,50;")};
        for (RoofsOfSnow x : all) {
            for (int round = 0; round < 2; round++) {
                for (int a : odd) {
                    for (int b : odd) {
                        everyCall(x, a, b);
                    }
                }
                Check.skies(x, 0, 1, 2);
            }
        }
        holds("every call came back", true);
    }

    private static void everyCall(RoofsOfSnow x, int a, int b) {
        x.roof(a, b);
        x.thought(a, b);
        x.now(a);
        x.goes(a, b, b);
        x.creak(a, b > 0);
        x.tell(a, b);
        x.loss(a);
        x.over(a, b);
        x.best(a, b);
        x.first(a);
        x.more(a, b);
        x.prop(a);
        x.instead(a, b);
        x.look(a);
        x.rain(a);
        x.out(a, b, a, b, a);
        x.out(a, 1, 1, 1, b);
        x.night(a, b, b, a);
        x.night(a, 1, 24, b);
        x.keep();
        x.on(a, b);
        x.back();
        x.sky(a);
        x.count(a);
        x.write(a, b);
        x.fault();
        x.lay();
    }
}
