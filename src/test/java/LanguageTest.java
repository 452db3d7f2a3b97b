import java.io.IOException;
import java.lang.reflect.Constructor;
import java.lang.reflect.Field;
import java.lang.reflect.Method;
import java.lang.reflect.Modifier;
import java.nio.charset.StandardCharsets;
import java.nio.file.Files;
import java.nio.file.Path;
import java.util.Set;
import java.util.TreeSet;
import java.util.regex.Matcher;
import java.util.regex.Pattern;

/** The face, and those rules of LANGUAGE.md that can be looked at from outside. */
public final class LanguageTest {
    private static final Check CHECK = new Check();
    private static final String FACE = "aspect/1 back/0 bound/1 chance/5 clears/1 copy/5 count/1 drawn/2 drop/0 fault/2"
        + " faultOf/2 feed/6 film/3 fix/0 force/2 image/0 load/4 log/1 mend/1 moment/0 moves/0 of/2 order/1 pick/1"
        + " proof/1 put/3 rule/2 run/2 section/4 seen/1 set/3 sheet/3 taken/2 tells/3 text/0 train/2 who/1";
    private static final String[] FORBIDDEN = {"throw", "throws", "try", "catch", "finally", "synchronized", "assert",
        "import", "package", "static\\s*\\{", "->", "::", "Exact\\b", "protected", "var", "Object", "System\\.(?!arraycopy)",
        "@\\w+"};

    private static void face() {
        Set<String> open = new TreeSet<>();
        Set<String> closed = new TreeSet<>();
        for (Method m : TrackCircuits.class.getDeclaredMethods()) {
            if (Modifier.isPublic(m.getModifiers())) {
                open.add(m.getName() + "/" + m.getParameterCount());
                CHECK.holds(m + " answers an int", m.getReturnType() == int.class);
            } else if (!m.isSynthetic()) {
                CHECK.holds(m + " is private", Modifier.isPrivate(m.getModifiers()));
                closed.add(m.getName());
            }
            CHECK.holds(m + " takes seven at most", m.getParameterCount() <= 7);
        }
        CHECK.holds("the methods of the document: " + open, String.join(" ", open).equals(FACE));
        for (String name : closed) {
            CHECK.holds(name + " is no name of the face", !(" " + FACE).contains(" " + name + "/"));
        }
        Constructor<?>[] made = TrackCircuits.class.getDeclaredConstructors();
        CHECK.due("constructors", made.length, 1);
        CHECK.holds("it is public, without arguments",
            Modifier.isPublic(made[0].getModifiers()) && made[0].getParameterCount() == 0);
        int flags = TrackCircuits.class.getModifiers();
        CHECK.holds("public and final", Modifier.isPublic(flags) && Modifier.isFinal(flags));
        CHECK.due("NONE", TrackCircuits.NONE, -1);
        CHECK.due("BAD", TrackCircuits.BAD, -2);
        CHECK.due("STATE", TrackCircuits.STATE, -3);
        CHECK.due("FULL", TrackCircuits.FULL, -4);
    }

    private static void fields(Class<?> type) {
        int own = 0;
        for (Field f : type.getDeclaredFields()) {
            int flags = f.getModifiers();
            if (Modifier.isStatic(flags)) {
                CHECK.holds(f + " is final", Modifier.isFinal(flags));
                CHECK.holds(f + " is a number or a row", f.getType() == int.class || f.getType() == int[].class);
            } else {
                own++;
            }
            boolean isOpen = Set.of("NONE", "BAD", "STATE", "FULL").contains(f.getName());
            if (type == TrackCircuits.class) {
                CHECK.holds(f + " is private", isOpen ? Modifier.isPublic(flags) : Modifier.isPrivate(flags));
            }
        }
        CHECK.holds(type + " has some twenty fields", own <= 20);
    }

    private static void classes() {
        fields(TrackCircuits.class);
        Class<?>[] inside = TrackCircuits.class.getDeclaredClasses();
        CHECK.holds("some twelve classes", inside.length <= 11);
        for (Class<?> type : inside) {
            CHECK.holds(type + " is static", Modifier.isStatic(type.getModifiers()));
            CHECK.holds(type + " is not public", !Modifier.isPublic(type.getModifiers()));
            fields(type);
            for (Method m : type.getDeclaredMethods()) {
                CHECK.holds(m + " is no name of the face", !(" " + FACE).contains(" " + m.getName() + "/"));
            }
        }
    }

    private static void words(String code) {
        for (String word : FORBIDDEN) {
            String pattern = Character.isLetter(word.charAt(0)) ? "\\b" + word + (word.matches("\\w+") ? "\\b" : "") : word;
            Matcher m = Pattern.compile(pattern).matcher(code);
            CHECK.holds("no " + word, !m.find());
        }
        CHECK.holds("no text joined by +", !Pattern.compile("\"\\s*\\+|\\+\\s*\"").matcher(code).find());
    }

    /** Rows and objects are made in constructors alone: a method's `new` would be counted each call. */
    private static void rows(String code) {
        Matcher methods = Pattern.compile("(?m)^(    (?:    )?)(?=[a-zA-Z])(?!return|else)[\\w\\[\\] ]*\\b(\\w+)\\([^;{]*\\) \\{$").matcher(code);
        int seen = 0;
        while (methods.find()) {
            String indent = methods.group(1);
            int end = code.indexOf("\n" + indent + "}\n", methods.end());
            String body = code.substring(methods.end(), end);
            if (methods.group().matches("\\s*(if|for|while|switch)\\b.*")) {
                continue;
            }
            seen++;
            CHECK.holds(methods.group(2) + " stays short", body.split("\n").length <= 60);
            boolean isConstructor = Character.isUpperCase(methods.group(2).charAt(0));
            CHECK.holds(methods.group(2) + " makes nothing", isConstructor || !body.contains("new "));
        }
        CHECK.holds("methods were found", seen > 80);
    }

    public static void main(String[] args) throws IOException {
        String file = args.length > 0 ? args[0] : "src/main/java/TrackCircuits.java";
        String source = Files.readString(Path.of(file), StandardCharsets.UTF_8);
        CHECK.holds("signs 1 to 127 alone", source.chars().allMatch(c -> c > 0 && c < 128));
        String code = source.replaceAll("(?s)/\\*.*?\\*/", "").replaceAll("//[^\n]*", "");
        face();
        classes();
        words(code);
        rows(code);
        CHECK.end("LanguageTest");
    }
}
