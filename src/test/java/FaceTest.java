import java.io.IOException;
import java.lang.reflect.Constructor;
import java.lang.reflect.Field;
import java.lang.reflect.Method;
import java.lang.reflect.Modifier;
import java.nio.charset.StandardCharsets;
import java.nio.file.Files;
import java.nio.file.Path;
import java.util.Set;
import java.util.TreeSet;
import java.util.regex.Matcher;
import java.util.regex.Pattern;

/** The public face is the document's, and the rules of LANGUAGE.md that a text can be asked for. */
public final class FaceTest {
  private static final Check CHECK = new Check("FaceTest");
  private static final Path SOURCE = Path.of("src/main/java/LabelsByAnotherHand.java");
  private static final Path DOCUMENT = Path.of("../shared/DOC.md");

  public static void main(String[] args) throws IOException {
    Class<?> face = LabelsByAnotherHand.class;
    CHECK.holds("rule 1: public and final",
        Modifier.isPublic(face.getModifiers()) && Modifier.isFinal(face.getModifiers()));
    membersAreTheDocuments(face);
    nestedClassesAreStatic(face);
    textKeepsToTheRules(Files.readString(SOURCE, StandardCharsets.US_ASCII));
    CHECK.end();
  }

  private static void membersAreTheDocuments(Class<?> face) throws IOException {
    Set<String> due = new TreeSet<>();
    Matcher told = Pattern.compile("    public (int|long) (\\w+)\\(([^)]*)\\);")
        .matcher(Files.readString(DOCUMENT));
    while (told.find()) {
      int numbers = told.group(3).isEmpty() ? 0 : told.group(3).split(",").length;
      due.add(told.group(1) + " " + told.group(2) + " " + numbers);
    }
    CHECK.due("calls of the document", due.size(), 40);
    Set<String> there = new TreeSet<>();
    Set<String> publicNames = new TreeSet<>();
    for (Method m : face.getDeclaredMethods()) {
      if (Modifier.isPublic(m.getModifiers())) {
        there.add(m.getReturnType() + " " + m.getName() + " " + m.getParameterCount());
        publicNames.add(m.getName());
      }
    }
    CHECK.holds("the face " + there + " is the document's", there.equals(due));
    for (Method m : face.getDeclaredMethods()) {
      boolean isPublic = Modifier.isPublic(m.getModifiers());
      CHECK.holds("rule 1: " + m + " is public or private",
          isPublic || Modifier.isPrivate(m.getModifiers()));
      CHECK.holds("rule 1: private " + m + " bears another name",
          isPublic || !publicNames.contains(m.getName()));
      CHECK.holds("rule 11: seven parameters of " + m, m.getParameterCount() <= 7);
    }
    for (Constructor<?> c : face.getDeclaredConstructors()) {
      CHECK.holds("rule 1: " + c, Modifier.isPublic(c.getModifiers()) && c.getParameterCount() == 0);
    }
    for (Field f : face.getDeclaredFields()) {
      CHECK.holds("rule 1: " + f + " is private", Modifier.isPrivate(f.getModifiers()));
      CHECK.holds("rule 5: " + f,
          !Modifier.isStatic(f.getModifiers()) || Modifier.isFinal(f.getModifiers()));
    }
  }

  private static void nestedClassesAreStatic(Class<?> face) {
    CHECK.holds("rule 11: twelve classes", face.getDeclaredClasses().length < 12);
    for (Class<?> c : face.getDeclaredClasses()) {
      CHECK.holds("rule 2: " + c + " is static", Modifier.isStatic(c.getModifiers()));
      int fields = 0;
      for (Field f : c.getDeclaredFields()) {
        fields += Modifier.isStatic(f.getModifiers()) ? 0 : 1;
      }
      CHECK.holds("rule 11: twenty fields of " + c, fields <= 20);
    }
  }

  /** Rule 4 lists functions of the library, so a constant of it (MAX_VALUE) is outside, too. */
  private static void libraryIsTheRules(String code) {
    Set<String> numbers = Set.of("Integer", "Long", "Math");
    Matcher used = Pattern.compile("\\b([A-Z][a-z]\\w*)\\.(\\w+)(\\(?)").matcher(code);
    while (used.find()) {
      boolean isFunction = used.group(3).equals("(");
      boolean isOwn = used.group(1).equals("Village");
      boolean isCopy = used.group().equals("System.arraycopy(");
      CHECK.holds("rules 4, 13: " + used.group() + " is listed",
          isOwn || isCopy || isFunction && numbers.contains(used.group(1)));
    }
  }

  private static void textKeepsToTheRules(String source) {
    String code = source.replaceAll("(?s)/\\*.*?\\*/", "").replaceAll("//[^\n]*", "");
    String[] never = {
      "throw", "throws", "try", "catch", "finally", "synchronized", "assert", "import", "package",
      "native", "var", "double", "float"
    };
    for (String word : never) {
      CHECK.holds("rules 3, 4, 6: no " + word,
          !Pattern.compile("\\b" + word + "\\b").matcher(code).find());
    }
    CHECK.holds("rule 2: no lambda, no method reference",
        !code.contains("->") && !code.contains("::"));
    CHECK.holds("rule 4: nothing ends in Exact", !code.contains("Exact"));
    libraryIsTheRules(code);
    int lines = 0;
    String name = "";
    for (String line : code.split("\n")) {
      boolean isMethod = line.matches("^(  |    )[\\w\\[\\] ]+\\(.*\\{$") && !line.contains(" new ");
      name = isMethod ? line.trim() : name;
      lines = isMethod ? 0 : lines + 1;
      if (line.matches("^(  |    )\\}$")) {
        CHECK.holds("rule 11: sixty lines of " + name, lines <= 60);
      }
    }
  }
}
