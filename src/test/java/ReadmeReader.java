import java.io.IOException;
import java.lang.reflect.Method;
import java.lang.reflect.Modifier;
import java.nio.file.Files;
import java.nio.file.Path;
import java.util.List;
import java.util.TreeSet;
import java.util.regex.Matcher;
import java.util.regex.Pattern;

/**
 * Makes a test of a page that shows how NavyOfCats is used, and prints it: a class ReadmeUse, in which each call of
 * the page's Java blocks must answer the number behind it. Ends with 1 where the page shows a call without an answer,
 * leaves a method of the face out, names a finding by another number than NavyOfCats tells, or shows a text that is
 * none.
 */
public final class ReadmeReader {
    private static final String BEGIN = "NavyOfCats navy = new NavyOfCats();";
    private static final Pattern SHOWN =
        Pattern.compile("(?:int (\\w+) = )?(navy\\.(\\w+)\\(.*\\));\\s+// (-?\\d+)(?::.*)?");
    private static final Pattern FINDING = Pattern.compile("\\| ([A-Z]+) +\\| (-\\d+) +\\|.*\\| (\\d) +\\|");
    private static final int FINDINGS = 7;

    private static final StringBuilder made = new StringBuilder();
    private static final TreeSet<String> shown = new TreeSet<>();
    private static int wrong = 0;

    public static void main(String[] args) throws IOException {
        List<String> page = Files.readAllLines(Path.of(args.length > 0 ? args[0] : "README.md"));
        begin();
        readBlocks(page);
        end();
        allIsShown();
        readFindings(page);
        readTexts(page);
        System.out.print(made);
        if (wrong != 0) {
            System.exit(1);
        }
    }

    private static void need(boolean holds, String what) {
        if (!holds) {
            wrong++;
            System.err.println("ReadmeReader: " + what);
        }
    }

    private static void write(String line) {
        made.append(line).append('\n');
    }

    private static void begin() {
        write("public final class ReadmeUse {");
        write("    private static int asked = 0;");
        write("    private static int wrong = 0;");
        write("    private static void due(int line, String call, long got, long want) {");
        write("        asked++;");
        write("        if (got != want) {");
        write("            wrong++;");
        write("            System.out.println(\"README.md, line \" + line + \": \" + call + \" answered \" + got"
            + " + \", due is \" + want);");
        write("        }");
        write("    }");
        write("    public static void main(String[] args) {");
    }

    private static void end() {
        write("        System.out.println(\"ReadmeUse: \" + asked + \" answers, \" + wrong + \" of them not as due\");");
        write("        if (wrong != 0) {");
        write("            System.exit(1);");
        write("        }");
        write("    }");
        write("}");
    }

    private static void readBlocks(List<String> page) {
        boolean inside = false;
        for (int i = 0; i < page.size(); i++) {
            String line = page.get(i).trim();
            if (!inside && line.equals("```java")) {
                inside = true;
                write("        {");
            } else if (inside && line.equals("```")) {
                inside = false;
                write("        }");
            } else if (inside && !line.isEmpty()) {
                readShown(i + 1, line);
            }
        }
        need(!inside, "a block has no end");
    }

    private static void readShown(int number, String line) {
        if (line.equals(BEGIN)) {
            write("            " + BEGIN);
            return;
        }
        Matcher m = SHOWN.matcher(line);
        if (!m.matches()) {
            need(false, "line " + number + " shows no call with its answer: " + line);
            return;
        }
        String name = m.group(1);
        String call = m.group(2);
        shown.add(m.group(3));
        if (name != null) {
            write("            int " + name + " = " + call + ";");
        }
        write("            due(" + number + ", \"" + call.replace("\"", "\\\"") + "\", "
            + (name != null ? name : call) + ", " + m.group(4) + "L);");
    }

    private static void allIsShown() {
        for (Method method : NavyOfCats.class.getDeclaredMethods()) {
            if (Modifier.isPublic(method.getModifiers())) {
                need(shown.contains(method.getName()), method.getName() + " isn't shown");
            }
        }
    }

    /** The page's table of findings: each by its name, its number and which status() tells how often it was found. */
    private static void readFindings(List<String> page) {
        int rows = 0;
        for (String line : page) {
            Matcher m = FINDING.matcher(line);
            if (m.matches()) {
                rows++;
                NavyOfCats navy = new NavyOfCats();
                long got = found(navy, m.group(1));
                need(got == Long.parseLong(m.group(2)), m.group(1) + " is " + got);
                need(navy.status(Integer.parseInt(m.group(3))) == 1, "status tells " + m.group(1) + " elsewhere");
            }
        }
        need(rows == FINDINGS, "there are " + FINDINGS + " findings, the page has " + rows);
    }

    /** Each line of the page's text blocks is a text, with as many items as it seems to have. */
    private static void readTexts(List<String> page) {
        int texts = 0;
        boolean inside = false;
        for (String line : page) {
            if (line.startsWith("```")) {
                inside = line.equals("```text");
            } else if (inside) {
                texts++;
                int items = Checks.told(new NavyOfCats(), line);
                need(items == line.split(";").length, "\"" + line + "\" answers " + items);
            }
        }
        need(texts > 0, "no text is shown");
    }

    /** A call that tells a finding by the words of its promise. */
    private static long found(NavyOfCats navy, String finding) {
        switch (finding) {
            case "BEYOND": return navy.cat(7);
            case "FULL":
                for (int i = 0; i < 30; i++) {
                    navy.feed(0, 4);
                }
                return navy.feed(0, 1);
            case "KIND":
                navy.hold(0, navy.cat(1));
                return navy.as(0, 2);
            case "NONE": return navy.undo();
            case "STATE": return navy.orders(0, 0);
            case "MISSING": return navy.load(0);
            case "SIZE": return navy.sheet(0, 8, -1);
            default: return 0;
        }
    }
}
