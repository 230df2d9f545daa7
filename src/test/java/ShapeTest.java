import java.io.IOException;
import java.lang.reflect.Constructor;
import java.lang.reflect.Field;
import java.lang.reflect.Method;
import java.lang.reflect.Modifier;
import java.nio.file.Files;
import java.nio.file.Path;
import java.util.ArrayList;
import java.util.Arrays;
import java.util.List;
import java.util.Set;
import java.util.TreeSet;
import java.util.regex.Matcher;
import java.util.regex.Pattern;

/** What can be seen from outside of the rules in LANGUAGE.md, and of the document's public face. */
public final class ShapeTest {
    private static final String[] FACE = {
        "boolean clock(int)", "int star(int,int,int)", "int stars(int,int)", "int plate(int,int,int)",
        "int image(int,int,int,int,int)", "int images(int,int,int,int,int)", "int gives(int,int,int)",
        "int feed(int,int,int,int,int)", "int end(int)", "int way()", "int ways(int,int)", "int takes(int,int,int)",
        "int answer(int,int,int)", "long miss(int,int)", "int each(int,int,int,int)", "int ruled(int,int,int,int,int)",
        "int three(int,int,int,int,int)", "long mixed(int,int,int)", "int parter(int,int)", "int usable(int,int,int)",
        "boolean tell(int,int)", "int knows(int,int)", "long leans(int,int,int,int)", "int joined(int,int,int,int)",
        "int quarrel(int,int,int,int,int)", "int say(int,int)", "int could(int,int,boolean)", "int field(int,int)",
        "int planned(int,int)", "int right(int,int,int,int,int,int)", "int span(int,int,int)",
        "int named(int,int,int,int,int)", "boolean glass(int,int,int,int)", "int stands(int,int,int,int)",
        "long off(int,int,int)", "int heat(int,int,int)", "int again(int,int,int,int)", "int mark(int)", "int back(int)",
        "int count(int)"};

    private static int wrong = 0;

    private static void expect(boolean isTrue, String what) {
        if (!isTrue) {
            wrong++;
            System.out.println("not so: " + what);
        }
    }

    public static void main(String[] args) throws IOException {
        face();
        members();
        words(Files.readString(Path.of("src/main/java/BlackSun.java")));
        System.out.println(wrong == 0 ? "the class has its shape" : wrong + " things are not as the rules ask");
        if (wrong != 0) {
            System.exit(1);
        }
    }

    private static String told(Method m) {
        StringBuilder told = new StringBuilder(m.getReturnType() + " " + m.getName() + "(");
        for (Class<?> c : m.getParameterTypes()) {
            told.append(told.charAt(told.length() - 1) == '(' ? "" : ",").append(c);
        }
        return told.append(")").toString();
    }

    private static void face() {
        Set<String> open = new TreeSet<>();
        Set<String> names = new TreeSet<>();
        for (Method m : BlackSun.class.getDeclaredMethods()) {
            if (!Modifier.isPrivate(m.getModifiers())) {
                expect(Modifier.isPublic(m.getModifiers()), m + " is public");
                open.add(told(m));
                names.add(m.getName());
            }
        }
        expect(open.equals(new TreeSet<>(Arrays.asList(FACE))), "the methods are those of the document: " + open);
        for (Class<?> c : classes()) {
            for (Method m : c.getDeclaredMethods()) {
                expect(Modifier.isPublic(m.getModifiers()) || !names.contains(m.getName()), m + " has a name of its own");
            }
        }
        Constructor<?>[] made = BlackSun.class.getDeclaredConstructors();
        expect(made.length == 1 && made[0].getParameterCount() == 0 && Modifier.isPublic(made[0].getModifiers()),
                "one public constructor");
        for (Field f : BlackSun.class.getDeclaredFields()) {
            expect(Modifier.isPrivate(f.getModifiers()) || f.getName().equals("NONE"), f + " is private");
        }
        expect(Modifier.isFinal(BlackSun.class.getModifiers()), "the class is final");
        expect(BlackSun.class.getPackageName().isEmpty(), "the class has no package");
    }

    private static List<Class<?>> classes() {
        List<Class<?>> all = new ArrayList<>(List.of(BlackSun.class.getDeclaredClasses()));
        all.add(BlackSun.class);
        return all;
    }

    private static void members() {
        expect(classes().size() <= 12, "at most twelve classes");
        for (Class<?> c : classes()) {
            expect(c == BlackSun.class || Modifier.isStatic(c.getModifiers()), c + " is static");
            int fields = 0;
            for (Field f : c.getDeclaredFields()) {
                boolean isStatic = Modifier.isStatic(f.getModifiers());
                fields += isStatic ? 0 : 1;
                expect(!isStatic || Modifier.isFinal(f.getModifiers()), f + " is final");
                expect(!isStatic || f.getType().isPrimitive() || f.getType() == String.class, f + " is a constant");
                expect(f.getType() != double.class && f.getType() != float.class, f + " is exact");
            }
            expect(fields <= 20, c + " has at most twenty fields");
            for (Method m : c.getDeclaredMethods()) {
                expect(m.getParameterCount() <= 7, m + " takes at most seven");
            }
        }
    }

    private static void words(String source) {
        String text = source.replaceAll("(?s)/\\*.*?\\*/", " ").replaceAll("//[^\n]*", " ")
                .replaceAll("\"[^\"\n]*\"", "\"\"");
        String[] banned = {"throw", "throws", "try", "catch", "finally", "synchronized", "assert", "import", "package",
            "double", "float", "System\\.(?!arraycopy)\\w+", "\\w+Exact", "protected", "volatile", "native", "enum",
            "Thread", "Random", "Object", "hashCode", "toString"};
        for (String word : banned) {
            expect(!Pattern.compile("\\b" + word + "\\b").matcher(text).find(), "no " + word);
        }
        for (String sign : new String[] {"->", "::", "@", "static {"}) {
            expect(!text.contains(sign), "no " + sign);
        }
        for (int i = 0; i < source.length(); i++) {
            expect(source.charAt(i) < 128, "plain signs alone");
        }
        Matcher method = Pattern.compile("(?m)^( +)(?! |\\}|if|for|while|switch|else|do)[\\w\\[\\]. ]+\\([^;{]*\\) \\{$").matcher(source);
        while (method.find()) {
            int end = source.indexOf("\n" + method.group(1) + "}", method.end());
            long lines = source.substring(method.start(), end).lines().count();
            expect(lines <= 60, lines + " lines in " + method.group().trim());
        }
    }
}
