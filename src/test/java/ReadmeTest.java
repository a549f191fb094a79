import java.lang.reflect.Method;
import java.lang.reflect.Modifier;
import java.nio.file.Files;
import java.nio.file.Path;
import java.util.ArrayList;
import java.util.List;
import java.util.Map;
import java.util.Set;
import java.util.TreeSet;
import java.util.regex.Matcher;
import java.util.regex.Pattern;

/**
 * Writes the examples of README.md as a program that makes their calls and compares the answers, and
 * checks README.md's tables of findings and of calls.
 */
public final class ReadmeTest {
  private static final Map<String, Integer> FINDINGS = Map.of("BEYOND", -1000001, "FULL", -1000002,
      "KIND", -1000003, "NONE", -1000004, "STATE", -1000005, "MISSING", -1000006, "SIZE", -1000007);
  private static final Pattern BLOCK = Pattern.compile("(?ms)^```java\n(.*?)^```$");
  /** A call, its answer, and the name of the finding, if it is one. */
  private static final Pattern SHOWN = Pattern.compile("(plain\\.\\w+\\(.*\\)); *// (-?\\d+)(?: \\(([A-Z]+)\\))?(?:: .+)?");

  private static int calls = 0;
  private static int failed = 0;

  private static void due(String what, boolean holds) {
    if (!holds) {
      failed++;
      System.out.println("README.md: " + what);
    }
  }

  /** First argument: README.md; second: the file of the program. */
  public static void main(String[] args) throws Exception {
    String readme = Files.readString(Path.of(args[0]));
    Files.writeString(Path.of(args[1]), program(readme));
    checkFindings(readme);
    checkCalls(readme);
    due("no call is shown", calls > 0);
    System.out.println(calls + " calls are shown, " + failed + " failed");
    if (failed > 0) System.exit(1);
  }

  private static String program(String readme) {
    List<String> lines = new ArrayList<>();
    lines.add("public final class ReadmeRuns {");
    lines.add("  private static int wrong = 0;");
    lines.add("  private static void due(String call, int got, int want) {");
    lines.add("    if (got == want) return;");
    lines.add("    wrong++;");
    lines.add("    System.out.println(\"README.md: \" + call + \" answers \" + got + \", not \" + want);");
    lines.add("  }");
    lines.add("  public static void main(String[] args) {");
    Matcher block = BLOCK.matcher(readme);
    while (block.find()) {
      lines.add("    {");
      for (String line : block.group(1).split("\n")) lines.add("      " + checked(line.strip()));
      lines.add("    }");
    }
    lines.add("    System.out.println(wrong == 0 ? \"the examples are as they are shown\" : wrong + \" are not\");");
    lines.add("    if (wrong != 0) System.exit(1);");
    lines.add("  }");
    lines.add("}");
    return String.join("\n", lines) + "\n";
  }

  /** A call that is shown with its answer is compared; all else goes on as it is. */
  private static String checked(String line) {
    Matcher shown = SHOWN.matcher(line);
    if (!shown.matches()) {
      due("a call without its answer: " + line, !line.startsWith("plain."));
      return line;
    }
    calls++;
    Integer answer = Integer.valueOf(shown.group(2));
    boolean isFinding = FINDINGS.containsValue(answer);
    due("a finding by another name: " + line,
        isFinding ? answer.equals(FINDINGS.get(shown.group(3))) : shown.group(3) == null);
    String call = shown.group(1);
    return "due(\"" + call.replace("\\", "\\\\").replace("\"", "\\\"") + "\", " + call + ", " + answer + ");";
  }

  private static void checkFindings(String readme) {
    Matcher row = Pattern.compile("(?m)^\\| (-\\d+) \\| (\\w+) \\|").matcher(readme);
    Set<String> told = new TreeSet<>();
    while (row.find()) {
      told.add(row.group(2));
      due("the number of " + row.group(2), Integer.valueOf(row.group(1)).equals(FINDINGS.get(row.group(2))));
    }
    due("the table of findings", told.equals(new TreeSet<>(FINDINGS.keySet())));
  }

  /** The table of calls has each call of the class, with as many arguments, and no other one. */
  private static void checkCalls(String readme) {
    Set<String> told = new TreeSet<>();
    Matcher call = Pattern.compile("`(\\w+)\\(([^)]*)\\)`").matcher(table(readme));
    while (call.find()) told.add(call.group(1) + " " + (call.group(2).isEmpty() ? 0 : call.group(2).split(",").length));
    Set<String> there = new TreeSet<>();
    for (Method method : EqualPlain.class.getDeclaredMethods()) {
      if (Modifier.isPublic(method.getModifiers())) there.add(method.getName() + " " + method.getParameterCount());
    }
    due("the table of calls: it tells " + told + ", there are " + there, told.equals(there));
  }

  private static String table(String readme) {
    int begin = readme.indexOf("| calls |");
    int end = begin < 0 ? -1 : readme.indexOf("\n\n", begin);
    return end < 0 ? "" : readme.substring(begin, end);
  }
}
