import java.lang.reflect.Constructor;
import java.lang.reflect.Field;
import java.lang.reflect.Method;
import java.lang.reflect.Modifier;
import java.nio.file.Files;
import java.nio.file.Path;
import java.util.HashSet;
import java.util.Set;
import java.util.regex.Matcher;
import java.util.regex.Pattern;

/** The class's face, and what of ../shared/LANGUAGE.md can be read off its source. */
public final class LanguageTest {
  private static final Check CHECK = new Check("language");

  private static final String[] FORBIDDEN = {
    "\\bthrow\\b", "\\bthrows\\b", "\\btry\\b", "\\bcatch\\b", "\\bfinally\\b", "\\bassert\\b",
    "\\bsynchronized\\b", "->", "::", "\\bdouble\\b", "\\bfloat\\b", "\\bRandom\\b", "\\bThread\\b",
    "System\\.(?!arraycopy)", "Exact\\(", "\\bpackage\\b", "\\bprotected\\b", "\\bequals\\(",
    "\\bhashCode\\b", "\\bObject\\b", "\\bException\\b", "static \\{", "\\bString\\.",
    "Arrays\\.(?!fill|copyOf)", "@"
  };

  public static void main(String[] args) throws Exception {
    face();
    String source = Files.readString(Path.of("src/main/java/DropTwo.java"));
    String code = source.replaceAll("(?s)/\\*.*?\\*/", "").replaceAll("//[^\n]*", "");
    for (String rule : FORBIDDEN) {
      CHECK.isTrue("no " + rule, !Pattern.compile(rule).matcher(code).find());
    }
    CHECK.isTrue("one import", code.split("\\bimport\\b").length == 2);
    CHECK.isTrue("no text is joined by +",
        !Pattern.compile("\"\\s*\\+|\\+\\s*\"").matcher(code).find());
    CHECK.isTrue("twelve classes at most", code.split("\\bclass\\b").length - 1 <= 12);
    parameters(code);
    CHECK.finish();
  }

  private static void face() throws Exception {
    String doc = Files.readString(Path.of("../shared/DOC.md"));
    String told = doc.substring(doc.indexOf("public final class"), doc.indexOf("## Terms"));
    Set<String> due = new HashSet<>();
    Matcher m = Pattern.compile("public (int|boolean) (\\w+)\\((.*?)\\);").matcher(told);
    while (m.find()) {
      int count = m.group(3).isEmpty() ? 0 : m.group(3).split(",").length;
      due.add(m.group(1) + " " + m.group(2) + " " + count);
    }
    Set<String> names = new HashSet<>();
    Set<String> has = new HashSet<>();
    for (Method method : DropTwo.class.getDeclaredMethods()) {
      if (Modifier.isPublic(method.getModifiers())) {
        has.add(method.getReturnType() + " " + method.getName() + " " + method.getParameterCount());
        names.add(method.getName());
      }
    }
    CHECK.isTrue("the face's methods", due.equals(has) && due.size() == 52);
    for (Method method : DropTwo.class.getDeclaredMethods()) {
      if (!Modifier.isPublic(method.getModifiers())) {
        CHECK.isTrue(method + " is private", Modifier.isPrivate(method.getModifiers()) || method.isSynthetic());
        CHECK.isTrue(method + " bears no public name", !names.contains(method.getName()));
      }
    }
    for (Field field : DropTwo.class.getDeclaredFields()) {
      boolean isTold = field.getName().equals("NONE") || field.getName().equals("NOTHING");
      CHECK.isTrue(field + "", isTold == Modifier.isPublic(field.getModifiers()));
      CHECK.isTrue(field + "", isTold || Modifier.isPrivate(field.getModifiers()));
    }
    Constructor<?>[] makers = DropTwo.class.getConstructors();
    CHECK.isTrue("one constructor", makers.length == 1 && makers[0].getParameterCount() == 0);
    CHECK.isTrue("final", Modifier.isFinal(DropTwo.class.getModifiers()));
    for (Class<?> inside : DropTwo.class.getDeclaredClasses()) {
      CHECK.isTrue(inside + " is static", Modifier.isStatic(inside.getModifiers()));
      int fields = 0;
      for (Field field : inside.getDeclaredFields()) {
        boolean isStatic = Modifier.isStatic(field.getModifiers());
        CHECK.isTrue(field + " is a constant", !isStatic || Modifier.isFinal(field.getModifiers()));
        fields += isStatic ? 0 : 1;
      }
      CHECK.isTrue(inside + " has some twenty fields", fields <= 20);
      for (Method method : inside.getDeclaredMethods()) {
        CHECK.isTrue(method + " bears no public name", !names.contains(method.getName()));
      }
    }
  }

  private static void parameters(String code) {
    Matcher m = Pattern.compile("\\n( +)(?:[\\w\\[\\]]+ )*\\w+\\(([^()]*)\\) \\{\\n").matcher(code);
    while (m.find()) {
      CHECK.isTrue("seven parameters at most: " + m.group(2), m.group(2).split(",").length <= 7);
      int end = code.indexOf("\n" + m.group(1) + "}\n", m.end() - 1);
      int lines = code.substring(m.start() + 1, Math.max(m.start() + 1, end)).split("\n").length;
      CHECK.isTrue("sixty lines at most: " + m.group().trim(), lines <= 60);
    }
  }
}
