import java.lang.reflect.Constructor;
import java.lang.reflect.Field;
import java.lang.reflect.Method;
import java.lang.reflect.Modifier;
import java.nio.file.Files;
import java.nio.file.Path;
import java.util.Set;
import java.util.TreeSet;
import java.util.regex.Matcher;
import java.util.regex.Pattern;

/** The rules of LANGUAGE.md that can be seen from the text and the shape of the class. */
public final class LanguageTest {
  private static int passed = 0;
  private static int failed = 0;

  private static void due(String what, boolean holds) {
    if (holds) {
      passed++;
    } else {
      failed++;
      System.out.println("LANGUAGE.md is not kept: " + what);
    }
  }

  /** First argument: the file of EqualPlain; second: the document. */
  public static void main(String[] args) throws Exception {
    String source = withoutTexts(Files.readString(Path.of(args[0])));
    checkWords(source);
    checkMethods(source);
    checkFace(Files.readString(Path.of(args[1])));
    System.out.println(passed + " passed, " + failed + " failed");
    if (failed > 0) System.exit(1);
  }

  private static String withoutTexts(String source) {
    return source.replaceAll("(?s)/\\*.*?\\*/", "").replaceAll("//[^\n]*", "")
        .replaceAll("\"[^\"\n]*\"", "\"\"").replaceAll("'.'", "' '");
  }

  private static void checkWords(String source) {
    due("no forbidden word", !Pattern.compile(
        "\\b(throw|throws|try|catch|synchronized|assert|volatile|native|hashCode|getClass|Exception|Object|"
        + "Random|Thread|System\\.(?!arraycopy)\\w+)\\b").matcher(source).find());
    due("no lambda and no method reference", !source.contains("->") && !source.contains("::"));
    due("one import", source.replaceAll("(?s)^(import java\\.util\\.Arrays;)?(.*)", "$2").indexOf("import ") < 0);
    due("no package line", !source.contains("package "));
    due("texts are not joined by +", !Pattern.compile("\"\"\\s*\\+|\\+\\s*\"\"").matcher(source).find());
    Matcher classes = Pattern.compile("\\b(class|record|enum|interface) [A-Z]").matcher(source);
    due("at most twelve classes", classes.results().count() <= 12);
  }

  private static void checkMethods(String source) {
    Matcher m = Pattern.compile("(?m)^( +)(?:[\\w<>\\[\\]]+ )+(\\w+)\\(([^)]*)\\) \\{$").matcher(source);
    while (m.find()) {
      if (m.group().matches(" *(if|for|while|switch|else|return).*")) continue;
      int end = source.indexOf("\n" + m.group(1) + "}\n", m.end());
      long lines = source.substring(m.start(), end).lines().count();
      due(m.group(2) + " has at most sixty lines", lines <= 60);
      due(m.group(2) + " has at most seven parameters", m.group(3).split(",").length <= 7);
    }
  }

  private static void checkFace(String document) {
    String face = document.substring(document.indexOf("```java"), document.indexOf("## Terms"));
    Set<String> asked = new TreeSet<>();
    Matcher m = Pattern.compile("public int (\\w+)\\(([^)]*)\\);").matcher(face);
    while (m.find()) asked.add(m.group(1) + " " + (m.group(2).isEmpty() ? 0 : m.group(2).split(",").length));
    Set<String> there = new TreeSet<>();
    Set<String> names = new TreeSet<>();
    for (Method method : EqualPlain.class.getDeclaredMethods()) {
      if (!Modifier.isPrivate(method.getModifiers())) {
        there.add(method.getName() + " " + method.getParameterCount());
        names.add(method.getName());
        due(method.getName() + " is public, and answers an int",
            Modifier.isPublic(method.getModifiers()) && method.getReturnType() == int.class);
      }
    }
    due("the face is the document's", asked.size() == 49 && asked.equals(there));
    due("the class is public and final", Modifier.isPublic(EqualPlain.class.getModifiers())
        && Modifier.isFinal(EqualPlain.class.getModifiers()));
    for (Constructor<?> made : EqualPlain.class.getDeclaredConstructors()) {
      due("one public constructor", Modifier.isPublic(made.getModifiers()) && made.getParameterCount() == 0);
    }
    checkInside(EqualPlain.class, names);
    for (Class<?> inside : EqualPlain.class.getDeclaredClasses()) {
      due(inside + " is static", Modifier.isStatic(inside.getModifiers()) && !Modifier.isPublic(inside.getModifiers()));
      checkInside(inside, names);
    }
  }

  private static void checkInside(Class<?> type, Set<String> names) {
    int fields = 0;
    for (Field field : type.getDeclaredFields()) {
      boolean isStatic = Modifier.isStatic(field.getModifiers());
      due(type + "." + field.getName() + " is private", Modifier.isPrivate(field.getModifiers()));
      due(type + "." + field.getName() + " is final if static", !isStatic || Modifier.isFinal(field.getModifiers()));
      if (!isStatic) fields++;
    }
    due(type + " has at most twenty fields", fields <= 20);
    for (Method method : type.getDeclaredMethods()) {
      boolean isFace = type == EqualPlain.class && Modifier.isPublic(method.getModifiers());
      due(type + "." + method.getName() + " bears no public name", isFace || !names.contains(method.getName()));
    }
  }
}
