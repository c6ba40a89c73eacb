import java.lang.reflect.Constructor;
import java.lang.reflect.Field;
import java.lang.reflect.Method;
import java.lang.reflect.Modifier;
import java.nio.file.Files;
import java.nio.file.Path;
import java.util.ArrayList;
import java.util.List;
import java.util.TreeSet;
import java.util.regex.Matcher;
import java.util.regex.Pattern;

/** The public face of the document, and those rules of LANGUAGE.md that can be seen by looking at the file. */
public final class LanguageTest {
    private static final String FACE = "int cat(int);int of(int,int);int change(int,int,int);int ship(int,int);"
        + "int steer(int,int,int);int island(int,int);int wind(int);int fish(int);int store(int);int go(int);"
        + "int feeds(int);int now(int);int ahead(int,int);int lands(int);int meets(int,int);int still();"
        + "int sits(int,int);int order(int);int soonest(int);long orders(int,int);int surest(int);int winds(int);"
        + "int windFor(int);int crew(int);int mean(int);int better(int);int spy(int,int,int);int uses(int,int);"
        + "int hunger(int);int kinds(int,int);int habits(int,int);int begun(int,int);int from(int,int);"
        + "int storms(int);int odds(int,int);long drives(int);int seed(int);int feed(int,int);int wipe();int text();"
        + "int hold(int,int);int as(int,int);int sheet(int,int,int);int write(int,int,int);"
        + "int copy(int,int,int,int,int);int load(int);int judge(int);int image();int undo();int tear();"
        + "int count(int);int status(int);";

    private static final String[] FORBIDDEN = {"\\bthrows?\\b", "\\btry\\b", "\\bcatch\\b", "\\bsynchronized\\b",
        "\\bassert\\b", "->", "::", "\\bpackage\\b", "\\bvar\\b", "Exact\\b", "\\bnew [A-Z]\\w*\\([^)]*\\) *\\{",
        "\\bstatic *\\{", "while \\(true\\)", "for \\(;;\\)", "\\bString\\.", "\\bSystem\\.(?!arraycopy)",
        "\\bObject\\b", "\\bThread\\b", "\\bRandom\\b", "\\bhashCode\\b", "\\btoString\\b"};

    private static final int MOST_LINES = 60;

    private static int wrong = 0;

    private static void need(boolean holds, String what) {
        if (!holds) {
            wrong++;
            System.out.println("LanguageTest: " + what);
        }
    }

    public static void main(String[] args) throws Exception {
        String source = Files.readString(Path.of(args.length > 0 ? args[0] : "src/main/java/NavyOfCats.java"));
        String code = withoutTexts(source);
        face();
        rulesOfTheFile(code);
        namesOfMethods();
        lengthsOfMethods(code);
        System.out.println("LanguageTest: " + wrong + " rules are broken");
        if (wrong != 0) {
            System.exit(1);
        }
    }

    private static String withoutTexts(String source) {
        return source.replaceAll("(?s)/\\*.*?\\*/", "").replaceAll("//[^\n]*", "").replaceAll("\"[^\"\n]*\"", "\"\"");
    }

    private static void face() {
        Class<?> navy = NavyOfCats.class;
        need(Modifier.isPublic(navy.getModifiers()) && Modifier.isFinal(navy.getModifiers()), "public and final");
        Constructor<?>[] constructors = navy.getDeclaredConstructors();
        need(constructors.length == 1 && constructors[0].getParameterCount() == 0
            && Modifier.isPublic(constructors[0].getModifiers()), "one public constructor");
        TreeSet<String> due = new TreeSet<>(List.of(FACE.split(";")));
        TreeSet<String> there = new TreeSet<>();
        for (Method m : navy.getDeclaredMethods()) {
            if (!Modifier.isPrivate(m.getModifiers())) {
                List<String> types = new ArrayList<>();
                for (Class<?> type : m.getParameterTypes()) {
                    types.add(type.getName());
                }
                there.add(m.getReturnType().getName() + " " + m.getName() + "(" + String.join(",", types) + ")");
                need(Modifier.isPublic(m.getModifiers()) && !Modifier.isStatic(m.getModifiers()), m + " is no method of the face");
            }
        }
        need(there.equals(due), "the face is " + there);
        need(due.size() == 52, "the document has 52 methods");
        for (Field f : navy.getDeclaredFields()) {
            need(Modifier.isPrivate(f.getModifiers()), f + " is private");
            need(!Modifier.isStatic(f.getModifiers()) || Modifier.isFinal(f.getModifiers()), f + " is final");
        }
        need(navy.getDeclaredClasses().length <= 11, "twelve classes at most");
        for (Class<?> inside : navy.getDeclaredClasses()) {
            need(Modifier.isStatic(inside.getModifiers()), inside + " is static");
            need(!Modifier.isPublic(inside.getModifiers()), inside + " isn't public");
        }
    }

    private static void rulesOfTheFile(String code) {
        for (String pattern : FORBIDDEN) {
            Matcher m = Pattern.compile(pattern).matcher(code);
            need(!m.find(), pattern + " stands in the file");
        }
        Matcher imports = Pattern.compile("import ([^;]*);").matcher(code);
        while (imports.find()) {
            need(imports.group(1).equals("java.util.Arrays"), "import of " + imports.group(1));
        }
        for (char c : code.toCharArray()) {
            need(c < 128, "a sign above 127");
        }
    }

    private static void namesOfMethods() {
        List<Class<?>> all = new ArrayList<>(List.of(NavyOfCats.class.getDeclaredClasses()));
        all.add(NavyOfCats.class);
        TreeSet<String> open = new TreeSet<>();
        for (Method m : NavyOfCats.class.getMethods()) {
            open.add(m.getName());
        }
        for (Class<?> type : all) {
            for (Method m : type.getDeclaredMethods()) {
                boolean isFace = type == NavyOfCats.class && Modifier.isPublic(m.getModifiers());
                need(isFace || !open.contains(m.getName()), m + " bears the name of a public one");
                need(m.getParameterCount() <= 7, m + " takes at most seven");
            }
            int fields = 0;
            for (Field f : type.getDeclaredFields()) {
                fields += Modifier.isStatic(f.getModifiers()) ? 0 : 1;
            }
            need(fields <= 20, type + " has some twenty fields");
        }
    }

    private static void lengthsOfMethods(String code) {
        String begin = "";
        int lines = 0;
        for (String line : code.split("\n")) {
            if (line.matches(" {4}( {4})?[\\w].*\\) \\{")) {
                begin = line.trim();
                lines = 0;
            }
            lines++;
            if (line.matches(" {4}( {4})?\\}")) {
                need(begin.isEmpty() || lines <= MOST_LINES, begin + " has " + lines + " lines");
                begin = "";
            }
        }
    }
}
