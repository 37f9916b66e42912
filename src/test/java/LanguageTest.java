import java.lang.reflect.Constructor;
import java.lang.reflect.Field;
import java.lang.reflect.Method;
import java.lang.reflect.Modifier;
import java.nio.file.Files;
import java.nio.file.Path;
import java.util.Arrays;
import java.util.List;
import java.util.Set;
import java.util.TreeSet;
import java.util.regex.Matcher;
import java.util.regex.Pattern;

/** What of LANGUAGE.md a machine sees easily; the face is checked by its signatures. */
public final class LanguageTest {
  private static final Path SOURCE = Path.of("src/main/java/HarbourTugs.java");

  private static final String FACE = "back() int; berth(int,int,int) int; best(int,int) int; "
      + "breaks(int,int) int; bunker(int,int) int; calm() int; count(int) int; fuel(int,int) int; "
      + "job(int,int) int; keep() int; lay(int,int,int) int; layMended(int) int; "
      + "layOrder(int) int; may(int,int,int) int; mend(int) int; mended(int,int) int; "
      + "needs(int,int) int; off(int) int; order(int,int) int; pool(int,int) int; "
      + "price(int) long; priceRule(int,int,int,int) int; rule(int,int) int; "
      + "ship(int,int,int,int,int,int,int) int; storm(int,int) int; tide(int,int) int; "
      + "tug(int,int,int,int,int,int,int) int; way(int,int) int; wind(int,int) int; "
      + "work(int,int) long; about(int,int) int";

  private static int wrong = 0;

  private static void due(boolean so, String what) {
    if (!so) {
      wrong++;
      System.out.println("LANGUAGE.md: " + what);
    }
  }

  public static void main(String[] args) throws Exception {
    face();
    members();
    source(Files.readString(SOURCE));
    System.out.println(wrong == 0 ? "the language is kept" : wrong + " breaches");
    if (wrong != 0) {
      System.exit(1);
    }
  }

  private static String signature(Method m) {
    StringBuilder s = new StringBuilder(m.getName()).append('(');
    for (Class<?> c : m.getParameterTypes()) {
      s.append(s.charAt(s.length() - 1) == '(' ? "" : ",").append(c.getName());
    }
    return s.append(") ").append(m.getReturnType().getName()).toString();
  }

  private static void face() {
    Class<?> c = HarbourTugs.class;
    due(Modifier.isPublic(c.getModifiers()) && Modifier.isFinal(c.getModifiers()), "1: the class");
    Set<String> due = new TreeSet<>(Arrays.asList(FACE.split("; ")));
    Set<String> found = new TreeSet<>();
    for (Method m : c.getDeclaredMethods()) {
      if (!Modifier.isPrivate(m.getModifiers())) {
        found.add(signature(m));
      }
    }
    due(found.equals(due), "1: the methods are " + found);
    Set<String> constants = new TreeSet<>();
    for (Field f : c.getDeclaredFields()) {
      if (!Modifier.isPrivate(f.getModifiers())) {
        constants.add(f.getName());
      }
    }
    due(constants.equals(Set.of("BAD", "NO", "FULL", "NONE")), "1: the constants are " + constants);
    Constructor<?>[] all = c.getDeclaredConstructors();
    due(all.length == 1 && Modifier.isPublic(all[0].getModifiers()), "1: the constructor");
  }

  private static void members() {
    Set<String> names = new TreeSet<>();
    for (String s : FACE.split("; ")) {
      names.add(s.substring(0, s.indexOf('(')));
    }
    Class<?>[] inside = HarbourTugs.class.getDeclaredClasses();
    due(inside.length <= 12, "11: too many classes");
    for (Class<?> c : inside) {
      due(Modifier.isStatic(c.getModifiers()), "2: " + c + " is not static");
      for (Method m : c.getDeclaredMethods()) {
        due(!names.contains(m.getName()), "1: " + m + " bears a public name");
        due(m.getParameterCount() <= 7, "11: " + m + " takes too much");
      }
      int fields = 0;
      for (Field f : c.getDeclaredFields()) {
        fields += Modifier.isStatic(f.getModifiers()) ? 0 : 1;
      }
      due(fields <= 20, "11: " + c + " has " + fields + " fields");
    }
    for (Method m : HarbourTugs.class.getDeclaredMethods()) {
      due(Modifier.isPublic(m.getModifiers()) || !names.contains(m.getName()),
          "1: " + m + " bears a public name");
    }
  }

  private static void source(String text) {
    String code = text.replaceAll("(?s)/\\*.*?\\*/", "").replaceAll("//[^\n]*", "");
    for (String word : List.of("throw", "throws", "try", "catch", "synchronized", "assert",
        "import", "package", "instanceof", "protected", "volatile", "double", "float")) {
      due(!Pattern.compile("\\b" + word + "\\b").matcher(code).find(), "6: the word " + word);
    }
    due(!code.contains("->") && !code.contains("::"), "2: a lambda or a method reference");
    due(!code.contains("Exact"), "4: an Exact function");
    due(!code.contains("\""), "10: a text");
    due(!Pattern.compile("static\\s*\\{").matcher(code).find(), "5: a static block");
    Matcher library = Pattern.compile("\\b(System|Math|Integer|Long|Arrays)\\.(\\w+)").matcher(code);
    Set<String> allowed = Set.of("System.arraycopy", "Math.max", "Integer.bitCount", "Long.bitCount");
    while (library.find()) {
      due(allowed.contains(library.group()), "4: " + library.group());
    }
    newInConstructorsAlone(code);
    shortMethods(code);
  }

  /** What calls make fills the one room of a run; so all rows are made in constructors. */
  private static void newInConstructorsAlone(String code) {
    String block = "";
    for (String line : code.split("\n")) {
      if (line.matches("(  |    )(?!for|if|while|switch|else|do)\\w.*\\{\\s*")
          && !line.contains("class")) {
        block = line.strip();
      }
      if (line.contains("new ")) {
        boolean field = line.contains("final ");
        boolean inConstructor = block.matches("(public )?[A-Z]\\w*\\(.*");
        due(field || inConstructor, "12: made in a call: " + line.strip());
      }
    }
  }

  private static void shortMethods(String code) {
    int since = 0;
    for (String line : code.split("\n")) {
      boolean begins = line.matches("(  |    )\\S.*[({]\\s*") || line.matches("(  |    )\\S.*\\(.*");
      since = begins ? 0 : since + 1;
      due(since <= 60, "11: a method is too long at " + line.strip());
    }
  }
}
