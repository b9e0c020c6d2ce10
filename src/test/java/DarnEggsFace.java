import java.lang.reflect.Constructor;
import java.lang.reflect.Field;
import java.lang.reflect.Method;
import java.lang.reflect.Modifier;
import java.nio.charset.StandardCharsets;
import java.nio.file.Files;
import java.nio.file.Path;
import java.util.Arrays;
import java.util.Set;
import java.util.TreeSet;
import java.util.regex.Matcher;
import java.util.regex.Pattern;

/** The face is the document's and no more, and the source keeps to what can be seen of LANGUAGE.md by a glance. */
public final class DarnEggsFace {
    private static final Path SOURCE = Path.of("src/main/java/DarnEggs.java");
    private static final Path DOCUMENT = Path.of("../shared/DOC.md");
    private static int wrong = 0;

    public static void main(String[] args) throws Exception {
        face();
        members();
        words();
        library();
        lengths();
        if (wrong > 0) {
            System.exit(1);
        }
    }

    private static void say(String what) {
        wrong++;
        System.out.println(what);
    }

    /** The lines of the document's face, told in one manner. */
    private static Set<String> documentFace() throws Exception {
        String document = Files.readString(DOCUMENT, StandardCharsets.UTF_8);
        String face = document.substring(document.indexOf("```java"));
        face = face.substring(0, face.indexOf("```", 3));
        Set<String> out = new TreeSet<>();
        Matcher m = Pattern.compile("public (\\w+) (\\w+)\\(([^)]*)\\)( throws ([^;]*))?;").matcher(face);
        while (m.find()) {
            String throwing = m.group(5) == null ? "" : m.group(5).trim();
            out.add(m.group(1) + " " + m.group(2) + "(" + m.group(3).replaceAll("(\\w+) \\w+", "$1").replace(" ", "")
                    + ") " + throwing.replace(" ", ""));
        }
        return out;
    }

    private static void face() throws Exception {
        Set<String> want = documentFace();
        Set<String> got = new TreeSet<>();
        for (Method m : DarnEggs.class.getDeclaredMethods()) {
            if (Modifier.isPublic(m.getModifiers())) {
                StringBuilder b = new StringBuilder(m.getReturnType() + " " + m.getName() + "(");
                b.append(String.join(",", Arrays.stream(m.getParameterTypes()).map(Class::getName).toList()));
                b.append(") ");
                b.append(String.join(",", Arrays.stream(m.getExceptionTypes()).map(Class::getSimpleName).toList()));
                got.add(b.toString());
            }
        }
        if (want.size() != 37 || !want.equals(got)) {
            say("the face is " + got + ", due is " + want);
        }
    }

    private static void members() {
        Set<String> names = new TreeSet<>();
        for (Method m : DarnEggs.class.getDeclaredMethods()) {
            if (Modifier.isPublic(m.getModifiers())) {
                names.add(m.getName());
            }
        }
        for (Method m : DarnEggs.class.getDeclaredMethods()) {
            boolean open = Modifier.isPublic(m.getModifiers());
            if (!open && (!Modifier.isPrivate(m.getModifiers()) || names.contains(m.getName()))) {
                say("a method that the face does not have: " + m);
            }
        }
        for (Field f : DarnEggs.class.getDeclaredFields()) {
            if (!Modifier.isPrivate(f.getModifiers()) && !f.getName().equals("NONE")) {
                say("a field that the face does not have: " + f);
            }
            if (Modifier.isStatic(f.getModifiers()) && !Modifier.isFinal(f.getModifiers())) {
                say("a static field that is not final: " + f);
            }
        }
        Constructor<?>[] constructors = DarnEggs.class.getDeclaredConstructors();
        if (constructors.length != 1 || constructors[0].getParameterCount() != 0
                || !Modifier.isPublic(constructors[0].getModifiers())) {
            say("constructors: " + Arrays.toString(constructors));
        }
        if (!Modifier.isFinal(DarnEggs.class.getModifiers()) || DarnEggs.class.getDeclaredClasses().length > 12) {
            say("the class is not final, or has too many classes inside");
        }
        for (Class<?> c : DarnEggs.class.getDeclaredClasses()) {
            if (!Modifier.isStatic(c.getModifiers()) || !Modifier.isPrivate(c.getModifiers())) {
                say("a class inside that is not private and static: " + c);
            }
        }
    }

    private static void words() throws Exception {
        String source = Files.readString(SOURCE, StandardCharsets.UTF_8);
        String code = bareCode();
        String[] never = {"\\bfinally\\b", "\\btry\\b", "\\bcatch\\b", "->", "::", "\\bassert\\b", "\\bsynchronized\\b",
            "\\w+Exact\\b", "\\bSystem\\.(?!arraycopy)", "\\bjava\\.(?!util\\.NoSuchElementException;)", "\\bdouble\\b",
            "\\bfloat\\b", "\"\\s*\\+", "\\+\\s*\"", "\\bstatic\\s*\\{", "\\bpackage\\b", "\\bRandom\\b", "\\bThread\\b"};
        for (String word : never) {
            Matcher m = Pattern.compile(word).matcher(code);
            if (m.find()) {
                say("in the source: " + m.group());
            }
        }
        for (int i = 0; i < source.length(); i++) {
            if (source.charAt(i) > 126) {
                say("a sign beyond 126 at " + i);
                return;
            }
        }
    }

    private static String bareCode() throws Exception {
        String source = Files.readString(SOURCE, StandardCharsets.UTF_8);
        return source.replaceAll("(?s)/\\*.*?\\*/", "").replaceAll("//[^\n]*", "");
    }

    /** Rule 4 lists functions only, so a constant of Integer or Long is none of them either. */
    private static void library() throws Exception {
        String code = bareCode();
        Set<String> fine = Set.of("Integer.bitCount", "Math.max", "Math.min", "System.arraycopy");
        Matcher m = Pattern.compile("\\b(Integer|Long|Math|System|Arrays|String|Character|Boolean)\\.\\w+").matcher(code);
        while (m.find()) {
            if (!fine.contains(m.group())) {
                say("of the library: " + m.group());
            }
        }
        Matcher thrown = Pattern.compile("\\bthrow\\b[^;]*;").matcher(code);
        while (thrown.find()) {
            if (!thrown.group().matches("throw new (NoSuchElement|IllegalArgument)Exception\\(\\);")) {
                say("thrown: " + thrown.group());
            }
        }
    }

    /** Rule 11: seven parameters (the document's own would() has eight), some sixty lines, some twenty fields. */
    private static void lengths() throws Exception {
        Matcher m = Pattern.compile("(?m)^( +)[\\w ]*?(\\w+)\\(([^()]*)\\)[\\w\\s,]*\\{$(?s:.*?)^\\1\\}").matcher(bareCode());
        int seen = 0;
        while (m.find()) {
            String name = m.group(2);
            seen++;
            if (m.group(3).split(",").length > 7 && !name.equals("would")) {
                say("more than seven parameters: " + name);
            }
            if (m.group().lines().count() > 60) {
                say("more than sixty lines: " + name);
            }
        }
        if (seen < 100) {
            say("only " + seen + " methods were found in the source");
        }
        tooManyFields(DarnEggs.class);
        for (Class<?> c : DarnEggs.class.getDeclaredClasses()) {
            tooManyFields(c);
        }
    }

    private static void tooManyFields(Class<?> c) {
        long fields = Arrays.stream(c.getDeclaredFields()).filter(f -> !Modifier.isStatic(f.getModifiers())).count();
        if (fields > 20) {
            say("more than twenty fields: " + c);
        }
    }
}
