import java.lang.reflect.Method;
import java.lang.reflect.Modifier;
import java.nio.file.Files;
import java.nio.file.Path;

/** What README.md shows: its calls answer what stands behind them, and it tells every call. */
public final class ReadmeTest {
  private static final Path README = Path.of("README.md");

  private static String[] shown = {};
  private static int at = 0;
  private static int wrong = 0;

  private static void fault(String what) {
    wrong++;
    System.out.println("README.md: " + what);
  }

  /** The next line of the example that asks is this call, with this answer, and it holds. */
  private static void due(String call, long got, long want) {
    String line = at < shown.length ? shown[at] : "";
    at++;
    if (!line.matches("\\Q" + call + "\\E; +// " + want + "(\\D.*)?")) {
      fault("due is " + call + " with " + want + ", but there is " + line);
    }
    if (got != want) {
      fault(call + " answered " + got + ", not " + want);
    }
  }

  public static void main(String[] args) throws Exception {
    String text = Files.readString(README);
    String example = text.substring(text.indexOf("```java") + 8);
    shown = example.substring(0, example.indexOf("```")).split("\n");
    HarbourTugs x = made();
    layJobs(x);
    planAndPay(x);
    goWrong(x);
    if (at != shown.length) {
      fault("the example has other lines than are tested");
    }
    everyCall(text);
    System.out.println(wrong == 0 ? "README.md is as the class" : wrong + " faults");
    if (wrong != 0) {
      System.exit(1);
    }
  }

  private static HarbourTugs made() {
    HarbourTugs x = new HarbourTugs();
    if (!shown[at].equals("HarbourTugs x = new HarbourTugs();")) {
      fault("the example begins with " + shown[at]);
    }
    at++;
    due("x.tug(0, 20, 1, 10, 20, 3, 0)", x.tug(0, 20, 1, 10, 20, 3, 0), 0);
    due("x.tug(1, 15, 0, 20, 20, 4, 0)", x.tug(1, 15, 0, 20, 20, 4, 0), 1);
    due("x.ship(20, 3, 1, 2, 5, 0, 2)", x.ship(20, 3, 1, 2, 5, 0, 2), 0);
    due("x.ship(30, 4, 1, 3, 9, 1, 3)", x.ship(30, 4, 1, 3, 9, 1, 3), 1);
    due("x.wind(4, 9)", x.wind(4, 9), 0);
    return x;
  }

  private static void layJobs(HarbourTugs x) {
    due("x.needs(1, 4)", x.needs(1, 4), 84);
    due("x.best(0, 0)", x.best(0, 0), 1);
    due("x.best(0, 1)", x.best(0, 1), 1);
    due("x.may(1, 2, 1)", x.may(1, 2, 1), 3);
    due("x.lay(0, 1, 1)", x.lay(0, 1, 1), 0);
    due("x.lay(0, 1, 1)", x.lay(0, 1, 1), -2);
    due("x.work(0, 0)", x.work(0, 0), 6);
    due("x.about(0, 7)", x.about(0, 7), 2);
  }

  private static void planAndPay(HarbourTugs x) {
    due("x.order(2, -1)", x.order(2, -1), 30);
    due("x.order(2, 0)", x.order(2, 0), 1);
    due("x.layOrder(2)", x.layOrder(2), 2);
    due("x.job(1, 1)", x.job(1, 1), 3);
    due("x.priceRule(0, 0, 0, 1000)", x.priceRule(0, 0, 0, 1000), 1);
    due("x.priceRule(1, 30, 1, 50)", x.priceRule(1, 30, 1, 50), 2);
    due("x.price(1)", x.price(1), 1500);
    due("x.pool(1, 1000)", x.pool(1, 1000), 310);
  }

  private static void goWrong(HarbourTugs x) {
    due("x.keep()", x.keep(), 1);
    due("x.storm(6, 7)", x.storm(6, 7), 1);
    due("x.mended(2, 2)", x.mended(2, 2), 35);
    due("x.layMended(2)", x.layMended(2), 2);
    due("x.breaks(1, 3)", x.breaks(1, 3), 0);
    due("x.job(1, 1)", x.job(1, 1), 1);
    due("x.breaks(0, 9)", x.breaks(0, 9), 1);
    due("x.count(5)", x.count(5), 2);
    due("x.back()", x.back(), 0);
    due("x.count(5)", x.count(5), 0);
  }

  /** Every call stands in the tables, with as many arguments as it takes. */
  private static void everyCall(String text) {
    for (Method m : HarbourTugs.class.getDeclaredMethods()) {
      if (Modifier.isPublic(m.getModifiers())) {
        int n = m.getParameterCount();
        String arguments = n == 0 ? "" : "\\w+" + "(, \\w+)".repeat(n - 1);
        if (!text.replaceAll("(?s)```.*?```", "").matches(
            "(?s).*`" + m.getName() + "\\(" + arguments + "\\)`.*")) {
          fault("there is no `" + m.getName() + "` with " + n + " arguments");
        }
      }
    }
  }
}
