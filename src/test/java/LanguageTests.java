import java.lang.reflect.Field;
import java.lang.reflect.Method;
import java.lang.reflect.Modifier;
import java.nio.file.Files;
import java.nio.file.Path;
import java.util.ArrayList;
import java.util.List;
import java.util.Map;
import java.util.Set;
import java.util.TreeMap;
import java.util.TreeSet;
import java.util.regex.Matcher;
import java.util.regex.Pattern;

/** The face of the class, and those rules of LANGUAGE.md that can be read off the file. */
public final class LanguageTests {
    private static final String SOURCE = "src/main/java/ClubStrokes.java";
    private static final String[] FACE = {
        "course(int,int,int)", "hole(int,int,int,int)", "right(int,int,int)", "about(int,int)",
        "holes(long,int)", "pickUp(int)", "card(int,int,int)", "nine(int,int,int,boolean)",
        "away(int,int,int)", "strike(int,boolean)", "ask(int,int)", "as(int,int)", "at(int,int)",
        "adjusted(int,int)", "mark(int)", "half(int)", "joined(int)", "number(int,int)",
        "raw(int,int,boolean)", "last(int,int)", "makes(int,int,int)", "given(int,int,int)",
        "strokes(int,int,int)", "score(int,boolean)", "points(int)", "match(int,int)", "place(int)",
        "tell(int)", "check(int,int)", "count(int)", "undo()", "found(int)"};
    private static final String[] FORBIDDEN = {
        "\\bthrow\\b", "\\bthrows\\b", "\\btry\\b", "\\bcatch\\b", "\\bsynchronized\\b", "\\bassert\\b",
        "\\bimport\\b", "\\bpackage\\b", "->", "::", "Exact\\b", "\\bRandom\\b", "\\bSystem\\.(?!arraycopy)",
        "\\bstatic\\s*\\{", "\\bprotected\\b", "\"", "\\[\\]\\[\\]"};
    private static final Set<String> TYPES = Set.of(
        "ClubStrokes", "Row", "Course", "Rights", "Card", "Best", "Player", "Math");
    private static final Set<String> LIBRARY = Set.of(
        "Math.abs", "Math.min", "Math.max", "Math.floorDiv", "Math.floorMod");
    /** Constructors, and what a new card needs: no other method makes objects. */
    private static final Set<String> MAKERS = Set.of(
        "ClubStrokes", "Row", "Course", "Card", "putDown", "away", "takeAll");
    private static final int DEEPEST = 8;
    private static final Pattern METHOD = Pattern.compile(
        "(?m)^( {4}| {8})(?:(?:public|private|static) )*(?:[\\w\\[\\]]+ )?(\\w+)\\([^)\\n]*\\) \\{\n(?s:(.*?))^\\1\\}");

    private static final List<String> wrong = new ArrayList<>();

    private static void need(boolean holds, String otherwise) {
        if (!holds) {
            wrong.add(otherwise);
        }
    }

    private static String signature(Method m) {
        StringBuilder s = new StringBuilder(m.getName()).append('(');
        for (Class<?> p : m.getParameterTypes()) {
            s.append(s.charAt(s.length() - 1) == '(' ? "" : ",").append(p.getName());
        }
        return s.append(')').toString();
    }

    private static void face() {
        Class<?> c = ClubStrokes.class;
        need(Modifier.isPublic(c.getModifiers()) && Modifier.isFinal(c.getModifiers()), "not public and final");
        need(c.getDeclaredConstructors().length == 1 && c.getConstructors().length == 1, "constructors");
        Set<String> due = new TreeSet<>(List.of(FACE));
        Set<String> names = new TreeSet<>();
        Set<String> got = new TreeSet<>();
        for (Method m : c.getDeclaredMethods()) {
            if (Modifier.isPublic(m.getModifiers())) {
                got.add(signature(m));
                names.add(m.getName());
                need(m.getReturnType() == int.class, m.getName() + " doesn't answer an int");
            } else {
                need(Modifier.isPrivate(m.getModifiers()) || m.isSynthetic(), m.getName() + " can be seen");
            }
        }
        need(got.equals(due), "the face is " + got);
        for (Field f : c.getDeclaredFields()) {
            need(Modifier.isPrivate(f.getModifiers()), f.getName() + " can be seen");
        }
        privateNames(c, names);
        staticState(c);
        need(c.getDeclaredClasses().length <= 12, "more than twelve classes");
        for (Class<?> inside : c.getDeclaredClasses()) {
            need(Modifier.isStatic(inside.getModifiers()), inside.getName() + " isn't static");
            need(!Modifier.isPublic(inside.getModifiers()), inside.getName() + " is public");
            privateNames(inside, names);
            staticState(inside);
        }
    }

    private static void privateNames(Class<?> c, Set<String> names) {
        for (Method m : c.getDeclaredMethods()) {
            need(Modifier.isPublic(m.getModifiers()) || !names.contains(m.getName()),
                    c.getName() + "." + m.getName() + " bears the name of a public method");
            need(m.getParameterCount() <= 7, m.getName() + " takes more than seven");
        }
    }

    private static void staticState(Class<?> c) {
        int fields = 0;
        for (Field f : c.getDeclaredFields()) {
            if (Modifier.isStatic(f.getModifiers())) {
                need(Modifier.isFinal(f.getModifiers()), f.getName() + " is static and not final");
            } else {
                fields++;
            }
        }
        need(fields <= 20, c.getName() + " has " + fields + " fields");
    }

    private static String withoutComments(String text) {
        return text.replaceAll("(?s)/\\*.*?\\*/", "").replaceAll("//[^\\n]*", "");
    }

    private static void library(String code) {
        Matcher type = Pattern.compile("\\b[A-Z]\\w*[a-z]\\w*\\b").matcher(code);
        while (type.find()) {
            need(TYPES.contains(type.group()), "the file names " + type.group());
        }
        Matcher call = Pattern.compile("\\bMath\\.\\w+").matcher(code);
        while (call.find()) {
            need(LIBRARY.contains(call.group()), "the file calls " + call.group());
        }
    }

    /** By the names of methods alone: those of one name in several classes are taken for one. */
    private static Map<String, String> bodies(String code) {
        Map<String, String> bodies = new TreeMap<>();
        Matcher m = METHOD.matcher(code);
        while (m.find()) {
            bodies.merge(m.group(2), m.group(3), String::concat);
        }
        return bodies;
    }

    private static void bodiesAreFound(Map<String, String> bodies) {
        List<Class<?>> classes = new ArrayList<>(List.of(ClubStrokes.class.getDeclaredClasses()));
        classes.add(ClubStrokes.class);
        for (Class<?> c : classes) {
            for (Method m : c.getDeclaredMethods()) {
                need(bodies.containsKey(m.getName()), m.getName() + " can't be found in the file");
            }
        }
    }

    private static void objects(Map<String, String> bodies) {
        for (Map.Entry<String, String> method : bodies.entrySet()) {
            boolean makes = Pattern.compile("\\bnew\\b").matcher(method.getValue()).find();
            need(!makes || MAKERS.contains(method.getKey()), method.getKey() + " makes an object");
        }
    }

    private static int depth(String name, Map<String, String> bodies, List<String> open) {
        if (open.contains(name)) {
            need(false, name + " is called by itself, through " + open);
            return 0;
        }
        open.add(name);
        int deepest = 0;
        Matcher call = Pattern.compile("\\b(\\w+)\\(").matcher(bodies.get(name));
        while (call.find()) {
            if (bodies.containsKey(call.group(1))) {
                deepest = Math.max(deepest, depth(call.group(1), bodies, open));
            }
        }
        open.remove(name);
        return 1 + deepest;
    }

    private static void structure() throws Exception {
        String code = withoutComments(Files.readString(Path.of(SOURCE)));
        library(code);
        Map<String, String> bodies = bodies(code);
        bodiesAreFound(bodies);
        objects(bodies);
        for (String name : bodies.keySet()) {
            int deep = depth(name, bodies, new ArrayList<>());
            need(deep <= DEEPEST, name + " goes " + deep + " calls deep");
        }
    }

    private static void words() throws Exception {
        String text = Files.readString(Path.of(SOURCE));
        String code = withoutComments(text);
        for (String word : FORBIDDEN) {
            Matcher m = Pattern.compile(word).matcher(code);
            need(!m.find(), "the file has " + word);
        }
        int start = 0;
        String[] lines = text.split("\n");
        for (int i = 0; i < lines.length; i++) {
            if (lines[i].matches("( {4}| {8})\\S.*\\) \\{")) {
                start = i;
            }
            if (lines[i].matches("( {4}| {8})\\}")) {
                need(i - start < 60 || lines[start].contains("class"), "a long method ends at line " + (i + 1));
            }
        }
    }

    /** No arguments in any state may make a call throw: this one is called with wild ones. */
    private static void wildCalls() throws Exception {
        int[] wild = {Integer.MIN_VALUE, -100003, -1, 0, 1, 8, 9, 17, 18, 59, 60, 100, 500, 9999, Integer.MAX_VALUE};
        long state = 7;
        for (int run = 0; run < 300; run++) {
            ClubStrokes x = new ClubStrokes();
            Method[] all = ClubStrokes.class.getMethods();
            for (int call = 0; call < 512; call++) {
                state = state * 6364136223846793005L + 1442695040888963407L;
                Method m = all[(int) ((state >>> 33) % all.length)];
                if (m.getDeclaringClass() != ClubStrokes.class) {
                    continue;
                }
                Object[] args = new Object[m.getParameterCount()];
                for (int i = 0; i < args.length; i++) {
                    state = state * 6364136223846793005L + 1442695040888963407L;
                    int v = wild[(int) ((state >>> 33) % wild.length)];
                    Class<?> type = m.getParameterTypes()[i];
                    args[i] = type == int.class ? (Object) v : type == long.class ? (Object) (v * 0x100000001L) : (Object) (v % 2 == 0);
                }
                m.invoke(x, args);
            }
        }
    }

    public static void main(String[] args) throws Exception {
        face();
        words();
        structure();
        wildCalls();
        for (String w : wrong) {
            System.out.println(w);
        }
        System.out.println(wrong.isEmpty() ? "the face and the file are as told" : wrong.size() + " faults");
        if (!wrong.isEmpty()) {
            System.exit(1);
        }
    }
}
