import java.io.IOException;
import java.lang.reflect.InvocationTargetException;
import java.lang.reflect.Method;
import java.nio.file.Files;
import java.nio.file.Path;
import java.util.ArrayList;
import java.util.Arrays;
import java.util.List;
import java.util.regex.Matcher;
import java.util.regex.Pattern;

/** README.md's calls answer what stands behind their arrows, and its tell() is the one that is used here. */
public final class ReadmeTest {
  private static final Pattern CALL = Pattern.compile("x\\.(\\w+)\\(([-\\d, ]*)\\); *// -> ([-\\w]+).*");
  private static final Pattern TELL = Pattern.compile("tell\\(x, \"([^\"]*)\"\\); *// -> ([-\\w]+).*");

  private static int wrong = 0;

  static int tell(LoanVans x, String text) {
    int[] four = new int[5];
    for (int at = 0; at < text.length(); at += 20) {
      for (int k = 0; k < 20; k++) {
        int sign = at + k < text.length() ? text.charAt(at + k) : ' ';
        four[k / 4] = four[k / 4] << 8 | sign;
      }
      x.feed(four[0], four[1], four[2], four[3], four[4]);
    }
    return x.text(text.length());
  }

  private static void due(String line, String got, String want) {
    if (!got.equals(want)) {
      wrong++;
      System.out.println("README.md: " + line + " - answered " + got);
    }
  }

  /** The blocks of Java, without what indents their lines. */
  private static List<List<String>> blocks(List<String> readme) {
    List<List<String>> all = new ArrayList<>();
    boolean inside = false;
    for (String line : readme) {
      if (line.startsWith("```")) {
        inside = line.equals("```java");
        if (inside) {
          all.add(new ArrayList<>());
        }
      } else if (inside) {
        all.get(all.size() - 1).add(line.strip());
      }
    }
    return all;
  }

  private static String answer(LoanVans x, String name, String args) throws ReflectiveOperationException {
    String[] words = args.isBlank() ? new String[0] : args.split(", *");
    Class<?>[] types = new Class<?>[words.length];
    Object[] numbers = new Object[words.length];
    Arrays.fill(types, int.class);
    for (int k = 0; k < words.length; k++) {
      numbers[k] = Integer.valueOf(words[k].strip());
    }
    Method m = LoanVans.class.getMethod(name, types);
    try {
      return String.valueOf(m.invoke(x, numbers));
    } catch (InvocationTargetException e) {
      return e.getCause().getClass().getSimpleName();
    }
  }

  private static void runLine(LoanVans x, String line) throws ReflectiveOperationException {
    Matcher call = CALL.matcher(line);
    Matcher told = TELL.matcher(line);
    if (call.matches()) {
      due(line, answer(x, call.group(1), call.group(2)), call.group(3));
    } else if (told.matches()) {
      due(line, String.valueOf(tell(x, told.group(1))), told.group(2));
    } else if (!line.equals("LoanVans x = new LoanVans();")) {
      due(line, "nothing: it is no call that this test knows", "");
    }
  }

  public static void main(String[] args) throws IOException, ReflectiveOperationException {
    List<List<String>> all = blocks(Files.readAllLines(Path.of("README.md")));
    List<String> own = new ArrayList<>();
    for (String line : Files.readAllLines(Path.of("src/test/java/ReadmeTest.java"))) {
      own.add(line.strip());
    }
    due("two blocks of Java", String.valueOf(all.size()), "2");
    if (all.size() == 2) {
      due("tell() as it is used here", String.valueOf(String.join("\n", own).contains(String.join("\n", all.get(0)))), "true");
      LoanVans x = new LoanVans();
      for (String line : all.get(1)) {
        runLine(x, line);
      }
    }
    System.out.println(wrong == 0 ? "README.md tells what is" : wrong + " things in README.md are not so");
    if (wrong != 0) {
      System.exit(1);
    }
  }
}
