import java.lang.reflect.Field;
import java.lang.reflect.Method;
import java.lang.reflect.Modifier;
import java.nio.file.Files;
import java.nio.file.Path;
import java.util.ArrayList;
import java.util.List;
import java.util.Set;
import java.util.TreeSet;
import java.util.regex.Matcher;
import java.util.regex.Pattern;

/** The face of the class, and those rules of LANGUAGE.md that can be read off the file. */
public final class LanguageTests {
    private static final String SOURCE = "src/main/java/ClubStrokes.java";
    private static final String[] FACE = {
        "course(int,int,int)", "hole(int,int,int,int)", "right(int,int,int)", "about(int,int)",
        "holes(long,int)", "pickUp(int)", "card(int,int,int)", "nine(int,int,int,boolean)",
        "away(int,int,int)", "strike(int,boolean)", "ask(int,int)", "as(int,int)", "at(int,int)",
        "adjusted(int,int)", "mark(int)", "half(int)", "joined(int)", "number(int,int)",
        "raw(int,int,boolean)", "last(int,int)", "makes(int,int,int)", "given(int,int,int)",
        "strokes(int,int,int)", "score(int,boolean)", "points(int)", "match(int,int)", "place(int)",
        "tell(int)", "check(int,int)", "count(int)", "undo()", "found(int)"};
    private static final String[] FORBIDDEN = {
        "\\bthrow\\b", "\\bthrows\\b", "\\btry\\b", "\\bcatch\\b", "\\bsynchronized\\b", "\\bassert\\b",
        "\\bimport\\b", "\\bpackage\\b", "->", "::", "Exact\\b", "\\bRandom\\b", "\\bSystem\\.(?!arraycopy)",
        "\\bstatic\\s*\\{", "\\bprotected\\b"};

    private static final List<String> wrong = new ArrayList<>();

    private static void need(boolean holds, String otherwise) {
        if (!holds) {
            wrong.add(otherwise);
        }
    }

    private static String signature(Method m) {
        StringBuilder s = new StringBuilder(m.getName()).append('(');
        for (Class<?> p : m.getParameterTypes()) {
            s.append(s.charAt(s.length() - 1) == '(' ? "" : ",").append(p.getName());
        }
        return s.append(')').toString();
    }

    private static void face() {
        Class<?> c = ClubStrokes.class;
        need(Modifier.isPublic(c.getModifiers()) && Modifier.isFinal(c.getModifiers()), "not public and final");
        need(c.getDeclaredConstructors().length == 1 && c.getConstructors().length == 1, "constructors");
        Set<String> due = new TreeSet<>(List.of(FACE));
        Set<String> names = new TreeSet<>();
        Set<String> got = new TreeSet<>();
        for (Method m : c.getDeclaredMethods()) {
            if (Modifier.isPublic(m.getModifiers())) {
                got.add(signature(m));
                names.add(m.getName());
                need(m.getReturnType() == int.class, m.getName() + " doesn't answer an int");
            } else {
                need(Modifier.isPrivate(m.getModifiers()) || m.isSynthetic(), m.getName() + " can be seen");
            }
        }
        need(got.equals(due), "the face is " + got);
        for (Field f : c.getDeclaredFields()) {
            need(Modifier.isPrivate(f.getModifiers()), f.getName() + " can be seen");
        }
        privateNames(c, names);
        staticState(c);
        need(c.getDeclaredClasses().length <= 12, "more than twelve classes");
        for (Class<?> inside : c.getDeclaredClasses()) {
            need(Modifier.isStatic(inside.getModifiers()), inside.getName() + " isn't static");
            need(!Modifier.isPublic(inside.getModifiers()), inside.getName() + " is public");
            privateNames(inside, names);
            staticState(inside);
        }
    }

    private static void privateNames(Class<?> c, Set<String> names) {
        for (Method m : c.getDeclaredMethods()) {
            need(Modifier.isPublic(m.getModifiers()) || !names.contains(m.getName()),
                    c.getName() + "." + m.getName() + " bears the name of a public method");
            need(m.getParameterCount() <= 7, m.getName() + " takes more than seven");
        }
    }

    private static void staticState(Class<?> c) {
        int fields = 0;
        for (Field f : c.getDeclaredFields()) {
            if (Modifier.isStatic(f.getModifiers())) {
                need(Modifier.isFinal(f.getModifiers()), f.getName() + " is static and not final");
            } else {
                fields++;
            }
        }
        need(fields <= 20, c.getName() + " has " + fields + " fields");
    }

    private static void words() throws Exception {
        String text = Files.readString(Path.of(SOURCE));
        String code = text.replaceAll("(?s)/\\*.*?\\*/", "").replaceAll("//[^\\n]*", "");
        for (String word : FORBIDDEN) {
            Matcher m = Pattern.compile(word).matcher(code);
            need(!m.find(), "the file has " + word);
        }
        int start = 0;
        String[] lines = text.split("\n");
        for (int i = 0; i < lines.length; i++) {
            if (lines[i].matches("( {4}| {8})\\S.*\\) \\{")) {
                start = i;
            }
            if (lines[i].matches("( {4}| {8})\\}")) {
                need(i - start < 60 || lines[start].contains("class"), "a long method ends at line " + (i + 1));
            }
        }
    }

    /** No arguments in any state may make a call throw: this one is called with wild ones. */
    private static void wildCalls() throws Exception {
        int[] wild = {Integer.MIN_VALUE, -100003, -1, 0, 1, 8, 9, 17, 18, 59, 60, 100, 500, 9999, Integer.MAX_VALUE};
        long state = 7;
        for (int run = 0; run < 300; run++) {
            ClubStrokes x = new ClubStrokes();
            Method[] all = ClubStrokes.class.getMethods();
            for (int call = 0; call < 512; call++) {
                state = state * 6364136223846793005L + 1442695040888963407L;
                Method m = all[(int) ((state >>> 33) % all.length)];
                if (m.getDeclaringClass() != ClubStrokes.class) {
                    continue;
                }
                Object[] args = new Object[m.getParameterCount()];
                for (int i = 0; i < args.length; i++) {
                    state = state * 6364136223846793005L + 1442695040888963407L;
                    int v = wild[(int) ((state >>> 33) % wild.length)];
                    Class<?> type = m.getParameterTypes()[i];
                    args[i] = type == int.class ? (Object) v : type == long.class ? (Object) (v * 0x100000001L) : (Object) (v % 2 == 0);
                }
                m.invoke(x, args);
            }
        }
    }

    public static void main(String[] args) throws Exception {
        face();
        words();
        wildCalls();
        for (String w : wrong) {
            System.out.println(w);
        }
        System.out.println(wrong.isEmpty() ? "the face and the file are as told" : wrong.size() + " faults");
        if (!wrong.isEmpty()) {
            System.exit(1);
        }
    }
}
