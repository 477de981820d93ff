import java.io.IOException;
import java.lang.reflect.Constructor;
import java.lang.reflect.Field;
import java.lang.reflect.Method;
import java.lang.reflect.Modifier;
import java.nio.file.Files;
import java.nio.file.Path;
import java.util.Arrays;
import java.util.Set;
import java.util.TreeSet;
import java.util.regex.Pattern;

/** The public face, and the rules of the language that can be seen from the file or the class. */
public final class FaceTest {
    private static final String[] FACE = {"feed/1", "end/1", "text/0", "fault/0", "rule/1", "node/3", "meant/3", "test/2",
        "said/2", "edge/2", "covers/2", "order/2", "same/1", "say/4", "lead/4", "nexts/3", "has/3", "take/0", "leave/0",
        "add/3", "drop/1", "draw/2", "keep/1", "back/1", "sheet/3", "lay/3", "read/4", "torn/0", "count/1"};

    public static void main(String[] args) throws IOException {
        constants();
        members();
        inside();
        words(Files.readString(Path.of(args.length > 0 ? args[0] : "src/main/java/TestChoice.java")));
        Due.close("FaceTest");
    }

    private static void constants() {
        Due.due("BAD", TestChoice.BAD, -1);
        Due.due("STATE", TestChoice.STATE, -2);
        Due.due("FULL", TestChoice.FULL, -3);
        Due.due("NONE", TestChoice.NONE, -4);
    }

    private static void members() {
        Due.due("public final", TestChoice.class.getModifiers(), Modifier.PUBLIC | Modifier.FINAL);
        Set<String> methods = new TreeSet<>();
        for (Method m : TestChoice.class.getDeclaredMethods()) {
            if (Modifier.isPublic(m.getModifiers())) {
                methods.add(m.getName() + "/" + m.getParameterCount());
                Due.holds(m.getName() + " answers an int", m.getReturnType() == int.class);
                Due.holds(m.getName() + " is of an object", !Modifier.isStatic(m.getModifiers()));
            } else {
                Due.holds(m.getName() + " is private", m.isSynthetic() || Modifier.isPrivate(m.getModifiers()));
            }
        }
        Due.holds("the face is " + methods, methods.equals(new TreeSet<>(Arrays.asList(FACE))));
        Set<String> fields = new TreeSet<>();
        for (Field f : TestChoice.class.getDeclaredFields()) {
            if (Modifier.isPublic(f.getModifiers())) {
                fields.add(f.getName());
            } else {
                Due.holds(f.getName() + " is private", Modifier.isPrivate(f.getModifiers()));
            }
            finalIfStatic(f);
        }
        Due.holds("the constants are " + fields, fields.equals(Set.of("BAD", "STATE", "FULL", "NONE")));
        Constructor<?>[] made = TestChoice.class.getDeclaredConstructors();
        Due.due("constructors", made.length, 1);
        Due.holds("the constructor is public, of nothing",
            Modifier.isPublic(made[0].getModifiers()) && made[0].getParameterCount() == 0);
    }

    private static void finalIfStatic(Field f) {
        boolean isStatic = Modifier.isStatic(f.getModifiers());
        Due.holds(f.getName() + " is final if it is static", !isStatic || Modifier.isFinal(f.getModifiers()));
    }

    private static void inside() {
        Set<String> face = new TreeSet<>();
        for (String name : FACE) {
            face.add(name.substring(0, name.indexOf('/')));
        }
        Class<?>[] inside = TestChoice.class.getDeclaredClasses();
        Due.holds("at most twelve classes", inside.length < 12);
        for (Class<?> c : inside) {
            Due.holds(c + " is static", Modifier.isStatic(c.getModifiers()));
            Due.holds(c + " is not public", !Modifier.isPublic(c.getModifiers()));
            int fields = 0;
            for (Field f : c.getDeclaredFields()) {
                finalIfStatic(f);
                fields += Modifier.isStatic(f.getModifiers()) ? 0 : 1;
            }
            Due.holds(c + " has at most twenty fields", fields <= 20);
            for (Method m : c.getDeclaredMethods()) {
                Due.holds(m + " bears no name of the face", !face.contains(m.getName()));
                Due.holds(m + " has at most seven parameters", m.getParameterCount() <= 7);
            }
        }
    }

    private static void words(String source) {
        String code = source.replaceAll("//.*|/\\*(?s:.*?)\\*/", "").replaceAll("\"[^\"]*\"|'[^']*'", "0");
        String[] banned = {"\\bthrow", "\\btry\\b", "\\bcatch\\b", "\\bfinally\\b", "\\bsynchronized\\b", "\\bassert\\b",
            "->", "::", "\\bpackage\\b", "\\bThread\\b", "\\bRandom\\b", "\\bException\\b", "\\bObject\\b", "Exact\\b",
            "\\bvar\\b", "\\bnative\\b", "\\bvolatile\\b", "\\btransient\\b", "\\bprotected\\b", "\\bhashCode\\b",
            "\\btoString\\b", "\\bSystem\\.(?!arraycopy\\b)", "\\bimport (?!java\\.util\\.Arrays;)"};
        for (String word : banned) {
            Due.holds("the file is without " + word, !Pattern.compile(word).matcher(code).find());
        }
    }
}
