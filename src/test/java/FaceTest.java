import java.lang.reflect.Constructor;
import java.lang.reflect.Field;
import java.lang.reflect.Method;
import java.lang.reflect.Modifier;
import java.nio.charset.StandardCharsets;
import java.nio.file.Files;
import java.nio.file.Path;
import java.util.Arrays;
import java.util.HashSet;
import java.util.Set;
import java.util.TreeSet;
import java.util.regex.Matcher;
import java.util.regex.Pattern;

/** The public face, to the letter, and those rules of LANGUAGE.md that can be told from the source's words. */
public final class FaceTest {
    private static final String FACE =
        "feed/1 end/1 text/0 fault/0 rule/1 mile/2 party/2 strain/2 pave/3 alter/3 stand/2 set/2 turn/1 fate/2 beside/1 sum/1 "
        + "best/1 place/2 never/0 oats/1 room/0 snow/0 rain/1 luck/3 mean/2 see/2 forget/1 turned/0 laws/1 look/1 drift/3 "
        + "keep/1 back/1 sheet/3 lay/3 read/4 torn/0 count/1";

    public static void main(String[] args) throws Exception {
        constants();
        members();
        words();
        Due.close("FaceTest");
    }

    private static void constants() {
        Due.due("BAD", CoachCourt.BAD, -1);
        Due.due("STATE", CoachCourt.STATE, -2);
        Due.due("FULL", CoachCourt.FULL, -3);
        Due.due("NONE", CoachCourt.NONE, -4);
    }

    private static void holds(String told, boolean yes) {
        Due.due(told, yes ? 1 : 0, 1);
    }

    private static void members() {
        Class<?> face = CoachCourt.class;
        holds("public final", Modifier.isPublic(face.getModifiers()) && Modifier.isFinal(face.getModifiers()));
        Set<String> methods = new TreeSet<>();
        Set<String> names = new HashSet<>();
        for (Method m : face.getDeclaredMethods()) {
            if (Modifier.isPublic(m.getModifiers())) {
                methods.add(m.getName() + "/" + m.getParameterCount());
                names.add(m.getName());
                boolean odds = m.getName().equals("luck") || m.getName().equals("mean");
                holds(m + " answers as told", m.getReturnType() == (odds ? long.class : int.class));
                holds(m + " takes ints", Arrays.stream(m.getParameterTypes()).allMatch(t -> t == int.class));
                holds(m + " is no static one", !Modifier.isStatic(m.getModifiers()));
            }
        }
        holds("the methods of the face, and no other: " + methods, methods.equals(new TreeSet<>(Arrays.asList(FACE.split(" ")))));
        for (Method m : face.getDeclaredMethods()) {
            boolean shown = Modifier.isPublic(m.getModifiers());
            holds(m + " is public or private", shown || Modifier.isPrivate(m.getModifiers()));
            holds(m + " does not bear the name of a public one", shown || !names.contains(m.getName()));
        }
        Set<String> shown = new TreeSet<>();
        for (Field f : face.getDeclaredFields()) {
            if (!Modifier.isPrivate(f.getModifiers())) {
                shown.add(f.getName());
            }
            holds(f + ": no static state", !Modifier.isStatic(f.getModifiers()) || Modifier.isFinal(f.getModifiers()));
        }
        holds("the constants of the face, and no other", shown.equals(new TreeSet<>(Arrays.asList("BAD", "STATE", "FULL", "NONE"))));
        Constructor<?>[] makers = face.getDeclaredConstructors();
        holds("one constructor", makers.length == 1 && Modifier.isPublic(makers[0].getModifiers()) && makers[0].getParameterCount() == 0);
        for (Class<?> inside : face.getDeclaredClasses()) {
            holds(inside + " is static", Modifier.isStatic(inside.getModifiers()));
            for (Method m : inside.getDeclaredMethods()) {
                holds(m + " does not bear the name of a public one", !names.contains(m.getName()));
            }
        }
        holds("at most twelve classes", face.getDeclaredClasses().length < 12);
    }

    private static void words() throws Exception {
        String source = Files.readString(Path.of("src/main/java/CoachCourt.java"), StandardCharsets.UTF_8);
        holds("signs 1 to 127 alone", source.chars().allMatch(c -> c > 0 && c < 128));
        String code = source.replaceAll("(?s)/\\*.*?\\*/", " ").replaceAll("//[^\n]*", " ").replaceAll("\"[^\"\n]*\"", "\"\"");
        String[] barred = {"throw", "throws", "try", "catch", "finally", "synchronized", "assert", "import", "package", "protected",
            "native", "volatile", "transient", "strictfp", "Object", "System\\.(?!arraycopy)\\w+", "\\w+Exact", "hashCode", "toString", "->", "::"};
        for (String word : barred) {
            Matcher m = Pattern.compile(word.matches("\\W+") ? word : "\\b" + word + "\\b").matcher(code);
            holds("no '" + word + "'", !m.find());
        }
        int lines = 0;
        int longest = 0;
        for (String line : source.split("\n")) {
            lines = line.matches(" {4,8}[\\w\\[\\]<> ]*\\(.*\\{") ? 0 : lines + 1;
            longest = line.matches(" {4}( {4})?}") ? Math.max(longest, lines) : longest;
        }
        holds("methods of some sixty lines at most, the longest has " + longest, longest <= 60);
    }
}
