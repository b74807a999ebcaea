import java.io.IOException;
import java.lang.reflect.Constructor;
import java.lang.reflect.Field;
import java.lang.reflect.Method;
import java.lang.reflect.Modifier;
import java.nio.file.Files;
import java.nio.file.Path;
import java.util.HashSet;
import java.util.Set;
import java.util.TreeSet;
import java.util.regex.Matcher;
import java.util.regex.Pattern;

/** The public face is the document's and no more, and the file keeps to what LANGUAGE.md leaves of Java. */
public final class FaceTest {
    private static final String[] FACE = {"int air(int)", "int damp(int,int)", "int crack(int,int)", "int fire(int)",
        "int log(int,int)", "int ticks(int)", "long heat(int,int,int)", "long sum(int)",
        "int kind(int,boolean,int,int,int,int,int)", "int second(int,int,int,int)", "int put(int,int)",
        "int move(int,int)", "int take(int)", "int loaf(int,int)", "int room(int)", "int order(int)", "int opening(int)",
        "int clear()", "int plan()", "int planned(int,int)", "int last(int)", "int wood(int,int,int,int,int)",
        "int households(int)", "int custom(int,int)", "int told(int,int,int,boolean)", "int slots(int)",
        "int at(int,int)", "int waits(int,int,int,int)", "int note(int,int,int)", "int lose(int)", "int bricks(int,int)",
        "int best(int)", "int explains(int,int,int)", "int count(int)"};
    private static final String[] FORBIDDEN = {"\\bthrow\\b", "\\btry\\b", "\\bcatch\\b", "\\bsynchronized\\b",
        "\\bassert\\b", "\\bpackage\\b", "->", "::", "\\bimport\\b", "\\bthrows\\b", "\\bprotected\\b", "Exact\\(",
        "\\bfinally\\b", "\\bvolatile\\b", "\\bvar\\b", "\\bSystem\\.(?!arraycopy)"};

    public static void main(String[] args) throws IOException {
        lookAtConstants();
        lookAtMethods();
        lookAtInsides();
        lookAtSource();
        Check.finish();
    }

    private static void lookAtConstants() {
        Check.due("NONE", VillageOven.NONE, -1);
        Check.due("BAD", VillageOven.BAD, -2);
        Check.due("NOT", VillageOven.NOT, -3);
        Check.due("FULL", VillageOven.FULL, -4);
        Set<String> open = new TreeSet<>();
        for (Field field : VillageOven.class.getDeclaredFields()) {
            if (!Modifier.isPrivate(field.getModifiers())) {
                open.add(field.getName());
            }
            if (Modifier.isStatic(field.getModifiers())) {
                Check.holds("static " + field.getName() + " is final", Modifier.isFinal(field.getModifiers()));
            }
        }
        Check.holds("no open field but the constants: " + open, open.equals(Set.of("NONE", "BAD", "NOT", "FULL")));
    }

    private static void lookAtMethods() {
        Set<String> open = new TreeSet<>();
        Set<String> names = new HashSet<>();
        Set<String> hidden = new HashSet<>();
        for (Method method : VillageOven.class.getDeclaredMethods()) {
            if (Modifier.isPrivate(method.getModifiers())) {
                hidden.add(method.getName());
            } else {
                Check.holds(method.getName() + " is public", Modifier.isPublic(method.getModifiers()));
                open.add(describe(method));
                names.add(method.getName());
            }
        }
        Check.holds("the methods are the document's: " + open, open.equals(new TreeSet<>(Set.of(FACE))));
        hidden.retainAll(names);
        Check.holds("no hidden method has a public one's name: " + hidden, hidden.isEmpty());
        Constructor<?>[] makers = VillageOven.class.getDeclaredConstructors();
        Check.holds("one public constructor without parameters",
            makers.length == 1 && makers[0].getParameterCount() == 0 && Modifier.isPublic(makers[0].getModifiers()));
        Check.holds("the class is final", Modifier.isFinal(VillageOven.class.getModifiers()));
    }

    private static String describe(Method method) {
        StringBuilder text = new StringBuilder();
        text.append(method.getReturnType()).append(' ').append(method.getName()).append('(');
        for (int i = 0; i < method.getParameterCount(); i++) {
            text.append(i == 0 ? "" : ",").append(method.getParameterTypes()[i]);
        }
        return text.append(')').toString();
    }

    private static void lookAtInsides() {
        Set<String> names = new HashSet<>();
        for (Method method : VillageOven.class.getDeclaredMethods()) {
            if (Modifier.isPublic(method.getModifiers())) {
                names.add(method.getName());
            }
        }
        Class<?>[] insides = VillageOven.class.getDeclaredClasses();
        Check.holds("some twelve classes at most", insides.length <= 12);
        for (Class<?> inside : insides) {
            Check.holds(inside + " is static and not public",
                Modifier.isStatic(inside.getModifiers()) && !Modifier.isPublic(inside.getModifiers()));
            Check.holds(inside + " has some twenty fields at most", inside.getDeclaredFields().length <= 20);
            for (Method method : inside.getDeclaredMethods()) {
                Check.holds(method + " has no public one's name", !names.contains(method.getName()));
                Check.holds(method + " takes seven parameters at most", method.getParameterCount() <= 7);
            }
        }
    }

    private static void lookAtSource() throws IOException {
        String text = Files.readString(Path.of("src/main/java/VillageOven.java"));
        String code = text.replaceAll("(?s)/\\*.*?\\*/", "").replaceAll("//[^\n]*", "");
        for (String word : FORBIDDEN) {
            Matcher found = Pattern.compile(word).matcher(code);
            Check.holds("no " + word + " in the file", !found.find());
        }
        for (int i = 0; i < text.length(); i++) {
            Check.holds("only plain signs in the file", text.charAt(i) < 128);
        }
    }
}
