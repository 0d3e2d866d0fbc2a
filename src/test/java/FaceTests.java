import java.lang.reflect.Constructor;
import java.lang.reflect.Field;
import java.lang.reflect.Method;
import java.lang.reflect.Modifier;
import java.nio.file.Files;
import java.nio.file.Path;
import java.util.Arrays;
import java.util.Set;
import java.util.TreeSet;
import java.util.regex.Matcher;
import java.util.regex.Pattern;

/** The face is the document's and no more; the file keeps to those rules of LANGUAGE.md that a text shows. */
public final class FaceTests {
    private static final String[] FACE = {
        "int feed(int)", "int valley()", "int told(int)", "int fortune(int)", "int person(int, int, int)",
        "int row(int, int, int)", "int of(int, int)", "int go()", "int sold(int)", "int run(int, int)",
        "int best(int, int)", "int truly(int, int)", "int harm(int)", "int leagues(int)", "int beside(int)",
        "int spill(int, int)", "int poor(int, int)", "long worse(int)", "int book(int)", "int looked()",
        "int act(int, int, int)", "int trace(int)", "int as(int, int)", "int image()", "int undo()", "int count(int)"};
    private static final String[] RULED_OUT = {
        "throw", "try", "catch", "synchronized", "assert", "import", "package", "protected", "Exception", "Object",
        "->", "::", "equals", "hashCode", "toString", "Exact"};

    private static int wrong = 0;

    private static void hold(boolean holds, String what) {
        if (!holds) {
            wrong++;
            System.out.println("does not hold: " + what);
        }
    }

    private static void face() throws ReflectiveOperationException {
        Set<String> names = new TreeSet<>();
        Set<String> open = new TreeSet<>();
        for (Method m : SoldWeather.class.getDeclaredMethods()) {
            String kinds = Arrays.toString(m.getParameterTypes());
            String text = m.getReturnType() + " " + m.getName() + "(" + kinds.substring(1, kinds.length() - 1) + ")";
            if (Modifier.isPrivate(m.getModifiers())) {
                names.add(m.getName());
            } else {
                open.add(text);
                hold(m.getModifiers() == Modifier.PUBLIC, text + " is public alone");
            }
        }
        hold(open.equals(new TreeSet<>(Arrays.asList(FACE))), "the methods are the document's: " + open);
        for (String one : FACE) {
            String name = one.substring(one.indexOf(' ') + 1, one.indexOf('('));
            hold(!names.contains(name), "no private method is called " + name);
        }
        hold(SoldWeather.class.getModifiers() == (Modifier.PUBLIC | Modifier.FINAL), "the class is public and final");
        Constructor<?>[] made = SoldWeather.class.getDeclaredConstructors();
        hold(made.length == 1 && made[0].getParameterCount() == 0 && Modifier.isPublic(made[0].getModifiers()),
            "one public constructor");
        for (Field f : SoldWeather.class.getDeclaredFields()) {
            boolean constant = Set.of("NONE", "BAD", "STATE", "FULL").contains(f.getName());
            hold(constant == Modifier.isPublic(f.getModifiers()), f.getName() + " is as open as it should be");
            hold(constant || Modifier.isPrivate(f.getModifiers()), f.getName() + " is private");
        }
        hold(SoldWeather.NONE == -1 && SoldWeather.BAD == -2 && SoldWeather.STATE == -3 && SoldWeather.FULL == -4,
            "the constants");
    }

    private static void classesInside() {
        Class<?>[] inside = SoldWeather.class.getDeclaredClasses();
        hold(inside.length < 12, "some twelve classes");
        for (Class<?> one : inside) {
            hold(Modifier.isStatic(one.getModifiers()), one + " is static");
            int fields = 0;
            for (Field f : one.getDeclaredFields()) {
                hold(!Modifier.isStatic(f.getModifiers()) || Modifier.isFinal(f.getModifiers()), f + " is final");
                fields += Modifier.isStatic(f.getModifiers()) ? 0 : 1;
            }
            hold(fields <= 20, one + " has some twenty fields");
            for (Method m : one.getDeclaredMethods()) {
                hold(m.getParameterCount() <= 7, m + " takes seven at most");
                for (String open : FACE) {
                    hold(!open.contains(" " + m.getName() + "("), m + " is not called as one of the face");
                }
            }
        }
    }

    private static void text() throws java.io.IOException {
        String all = Files.readString(Path.of("src/main/java/SoldWeather.java"));
        String code = all.replaceAll("(?s)/\\*.*?\\*/", "").replaceAll("//[^\n]*", "");
        for (String word : RULED_OUT) {
            String edge = Character.isLetter(word.charAt(0)) ? "\\b" : "";
            hold(!Pattern.compile(edge + Pattern.quote(word) + edge).matcher(code).find(), "no " + word);
        }
        hold(all.chars().allMatch(c -> c < 128), "signs below 128");
        Matcher m = Pattern.compile("\\b(Math|Integer|Long|System|Arrays)\\.(\\w+)").matcher(code);
        while (m.find()) {
            hold(Set.of("max", "min", "arraycopy").contains(m.group(2)), "library: " + m.group());
        }
        int length = 0;
        for (String line : all.split("\n")) {
            length = line.isBlank() ? 0 : length + 1;
            hold(length <= 60, "short methods: " + line);
            hold(line.length() <= 120, "short lines: " + line);
        }
    }

    public static void main(String[] args) throws Exception {
        face();
        classesInside();
        text();
        System.out.println(wrong == 0 ? "the face and the text are as told" : wrong + " things are not as told");
        if (wrong != 0) {
            System.exit(1);
        }
    }
}
