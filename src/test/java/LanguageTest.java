import java.lang.reflect.Constructor;
import java.lang.reflect.Field;
import java.lang.reflect.Method;
import java.lang.reflect.Modifier;
import java.nio.file.Files;
import java.nio.file.Path;
import java.util.ArrayList;
import java.util.List;
import java.util.Map;
import java.util.TreeMap;
import java.util.TreeSet;
import java.util.regex.Matcher;
import java.util.regex.Pattern;

/** The public face of the document, and those rules of LANGUAGE.md that can be seen by looking at the file. */
public final class LanguageTest {
    private static final String FACE = "int cat(int);int of(int,int);int change(int,int,int);int ship(int,int);"
        + "int steer(int,int,int);int island(int,int);int wind(int);int fish(int);int store(int);int go(int);"
        + "int feeds(int);int now(int);int ahead(int,int);int lands(int);int meets(int,int);int still();"
        + "int sits(int,int);int order(int);int soonest(int);long orders(int,int);int surest(int);int winds(int);"
        + "int windFor(int);int crew(int);int mean(int);int better(int);int spy(int,int,int);int uses(int,int);"
        + "int hunger(int);int kinds(int,int);int habits(int,int);int begun(int,int);int from(int,int);"
        + "int storms(int);int odds(int,int);long drives(int);int seed(int);int feed(int,int);int wipe();int text();"
        + "int hold(int,int);int as(int,int);int sheet(int,int,int);int write(int,int,int);"
        + "int copy(int,int,int,int,int);int load(int);int judge(int);int image();int undo();int tear();"
        + "int count(int);int status(int);";

    private static final String[] FORBIDDEN = {"\\bthrows?\\b", "\\btry\\b", "\\bcatch\\b", "\\bsynchronized\\b",
        "\\bassert\\b", "->", "::", "\\bpackage\\b", "\\bvar\\b", "Exact\\b", "\\bnew [A-Z]\\w*\\([^)]*\\) *\\{",
        "\\bstatic *\\{", "while \\(true\\)", "for \\(;;\\)", "\\bString\\.", "\\bSystem\\.(?!arraycopy)",
        "\\bObject\\b", "\\bThread\\b", "\\bRandom\\b", "\\bhashCode\\b", "\\btoString\\b"};

    private static final int MOST_LINES = 60;
    private static final int MOST_DEEP = 8;

    private static int wrong = 0;

    private static void need(boolean holds, String what) {
        if (!holds) {
            wrong++;
            System.out.println("LanguageTest: " + what);
        }
    }

    public static void main(String[] args) throws Exception {
        String source = Files.readString(Path.of(args.length > 0 ? args[0] : "src/main/java/NavyOfCats.java"));
        String code = withoutTexts(source);
        face();
        rulesOfTheFile(code);
        namesOfMethods();
        TreeMap<String, String> bodies = bodiesOfMethods(code);
        lengthsOfMethods(bodies);
        depthOfCalls(bodies);
        System.out.println("LanguageTest: " + wrong + " rules are broken");
        if (wrong != 0) {
            System.exit(1);
        }
    }

    private static String withoutTexts(String source) {
        return source.replaceAll("(?s)/\\*.*?\\*/", "").replaceAll("//[^\n]*", "").replaceAll("\"[^\"\n]*\"", "\"\"");
    }

    private static void face() {
        Class<?> navy = NavyOfCats.class;
        need(Modifier.isPublic(navy.getModifiers()) && Modifier.isFinal(navy.getModifiers()), "public and final");
        Constructor<?>[] constructors = navy.getDeclaredConstructors();
        need(constructors.length == 1 && constructors[0].getParameterCount() == 0
            && Modifier.isPublic(constructors[0].getModifiers()), "one public constructor");
        TreeSet<String> due = new TreeSet<>(List.of(FACE.split(";")));
        TreeSet<String> there = new TreeSet<>();
        for (Method m : navy.getDeclaredMethods()) {
            if (!Modifier.isPrivate(m.getModifiers())) {
                List<String> types = new ArrayList<>();
                for (Class<?> type : m.getParameterTypes()) {
                    types.add(type.getName());
                }
                there.add(m.getReturnType().getName() + " " + m.getName() + "(" + String.join(",", types) + ")");
                need(Modifier.isPublic(m.getModifiers()) && !Modifier.isStatic(m.getModifiers()), m + " is no method of the face");
            }
        }
        need(there.equals(due), "the face is " + there);
        need(due.size() == 52, "the document has 52 methods");
        for (Field f : navy.getDeclaredFields()) {
            need(Modifier.isPrivate(f.getModifiers()), f + " is private");
            need(!Modifier.isStatic(f.getModifiers()) || Modifier.isFinal(f.getModifiers()), f + " is final");
        }
        need(navy.getDeclaredClasses().length <= 11, "twelve classes at most");
        for (Class<?> inside : navy.getDeclaredClasses()) {
            need(Modifier.isStatic(inside.getModifiers()), inside + " is static");
            need(!Modifier.isPublic(inside.getModifiers()), inside + " isn't public");
        }
    }

    private static void rulesOfTheFile(String code) {
        for (String pattern : FORBIDDEN) {
            Matcher m = Pattern.compile(pattern).matcher(code);
            need(!m.find(), pattern + " stands in the file");
        }
        Matcher imports = Pattern.compile("import ([^;]*);").matcher(code);
        while (imports.find()) {
            need(imports.group(1).equals("java.util.Arrays"), "import of " + imports.group(1));
        }
        for (char c : code.toCharArray()) {
            need(c < 128, "a sign above 127");
        }
    }

    private static void namesOfMethods() {
        List<Class<?>> all = new ArrayList<>(List.of(NavyOfCats.class.getDeclaredClasses()));
        all.add(NavyOfCats.class);
        TreeSet<String> open = new TreeSet<>();
        for (Method m : NavyOfCats.class.getMethods()) {
            open.add(m.getName());
        }
        for (Class<?> type : all) {
            for (Method m : type.getDeclaredMethods()) {
                boolean isFace = type == NavyOfCats.class && Modifier.isPublic(m.getModifiers());
                need(isFace || !open.contains(m.getName()), m + " bears the name of a public one");
                need(m.getParameterCount() <= 7, m + " takes at most seven");
            }
            int fields = 0;
            for (Field f : type.getDeclaredFields()) {
                fields += Modifier.isStatic(f.getModifiers()) ? 0 : 1;
            }
            need(fields <= 20, type + " has some twenty fields");
        }
    }

    /** What stands in each method, by its name; those of one name (there are none now) stand together. */
    private static TreeMap<String, String> bodiesOfMethods(String code) {
        TreeMap<String, String> bodies = new TreeMap<>();
        Pattern head = Pattern.compile("( {4}(?: {4})?)(?!if|for|while|switch)\\w.*?(\\w+)\\(.*\\) \\{");
        String name = "";
        String end = "";
        StringBuilder body = new StringBuilder();
        for (String line : code.split("\n")) {
            Matcher m = head.matcher(line);
            if (m.matches()) {
                name = m.group(2);
                end = m.group(1) + "}";
                body.setLength(0);
            } else if (line.equals(end) && !name.isEmpty()) {
                bodies.merge(name, body.toString(), String::concat);
                name = "";
            } else {
                body.append(line).append('\n');
            }
        }
        for (Method method : NavyOfCats.class.getDeclaredMethods()) {
            need(bodies.containsKey(method.getName()), method.getName() + " isn't seen in the file");
        }
        return bodies;
    }

    private static void lengthsOfMethods(Map<String, String> bodies) {
        for (Map.Entry<String, String> method : bodies.entrySet()) {
            int lines = method.getValue().split("\n").length + 2;
            need(lines <= MOST_LINES, method.getKey() + " has " + lines + " lines");
        }
    }

    private static void depthOfCalls(Map<String, String> bodies) {
        TreeMap<String, Integer> depths = new TreeMap<>();
        for (String name : bodies.keySet()) {
            int deep = depth(name, bodies, depths, new TreeSet<>());
            need(deep <= MOST_DEEP, name + " goes " + deep + " calls deep");
        }
    }

    /** How many calls stand open at once when a method is called, its own among them; 99 if it calls itself. */
    private static int depth(String name, Map<String, String> bodies, Map<String, Integer> depths, TreeSet<String> open) {
        if (!open.add(name)) {
            return 99;
        }
        if (!depths.containsKey(name)) {
            int most = 0;
            Matcher calls = Pattern.compile("(\\w+)\\(").matcher(bodies.get(name));
            while (calls.find()) {
                if (bodies.containsKey(calls.group(1))) {
                    most = Math.max(most, depth(calls.group(1), bodies, depths, open));
                }
            }
            depths.put(name, most + 1);
        }
        open.remove(name);
        return depths.get(name);
    }
}
