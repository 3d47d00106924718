import java.lang.reflect.InvocationTargetException;
import java.lang.reflect.Method;
import java.lang.reflect.Modifier;
import java.util.ArrayList;
import java.util.Comparator;
import java.util.List;
import java.util.NoSuchElementException;

/** Any call in any state, with any numbers, answers or throws what the document says it may throw. */
public final class AnyCallTest {
  private static final int[] NUMBERS = {Integer.MIN_VALUE, Integer.MIN_VALUE + 1, -1000000, -3, -2, -1, 0, 0, 0, 1, 1, 1,
      2, 2, 3, 4, 5, 6, 7, 8, 9, 10, 23, 24, 39, 40, 41, 59, 60, 61, 64, 900, 901, 9998, 9999, 10000, Integer.MAX_VALUE - 1,
      Integer.MAX_VALUE};
  private static final String TOWN = "branch a closed 3; branch b; branch c; branch d; branch e; branch f; branch g; branch h;"
      + "title t 5; title u 2; title v 60; item t a; item t a; item u b; item v h; item u c; item t d;"
      + "van 1 a b c; van 2 b c a d; van 9 a a e f g h h h; van 1 h a;"
      + "hold b t; hold c t; hold a u; hold h v; hold g v; hold f u; grace 2; renews 3;";

  private static long state = 7;

  private static int below(int n) {
    state = state * 6364136223846793005L + 1442695040888963407L;
    return (int) ((state >>> 33) % n);
  }

  private static void feed(LoanVans x, String s) {
    for (int at = 0; at < s.length(); at += 20) {
      int[] n = new int[5];
      for (int k = 0; k < 20; k++) {
        n[k / 4] = n[k / 4] << 8 | (at + k < s.length() ? s.charAt(at + k) : ' ');
      }
      x.feed(n[0], n[1], n[2], n[3], n[4]);
    }
  }

  private static boolean isDue(Throwable thrown, String name) {
    boolean mayThrow = name.equals("branch") || name.equals("title") || name.equals("item") || name.equals("holdOf");
    boolean ours = thrown.getStackTrace().length > 0 && thrown.getStackTrace()[0].getClassName().equals("LoanVans");
    return mayThrow && ours
        && (thrown.getClass() == IndexOutOfBoundsException.class || thrown.getClass() == NoSuchElementException.class);
  }

  public static void main(String[] args) throws IllegalAccessException {
    List<Method> face = new ArrayList<>();
    for (Method m : LoanVans.class.getDeclaredMethods()) {
      if (Modifier.isPublic(m.getModifiers())) {
        face.add(m);
      }
    }
    face.sort(Comparator.comparing(Method::getName));
    int wrong = 0;
    for (int run = 0; run < 60 && wrong < 10; run++) {
      LoanVans x = new LoanVans();
      for (int call = 0; call < 3000 && wrong < 10; call++) {
        if (call % 600 == 0 && run % 6 != 0) {
          feed(x, TOWN);
          x.text(TOWN.length());
        }
        Method m = face.get(below(face.size()));
        Object[] numbers = new Object[m.getParameterCount()];
        for (int k = 0; k < numbers.length; k++) {
          numbers[k] = NUMBERS[below(NUMBERS.length)];
        }
        if (m.getName().equals("text") && below(20) != 0) {
          continue;
        }
        try {
          m.invoke(x, numbers);
        } catch (InvocationTargetException e) {
          if (!isDue(e.getCause(), m.getName())) {
            wrong++;
            System.out.println(m.getName() + List.of(numbers) + " threw " + e.getCause());
          }
        }
      }
    }
    System.out.println(wrong == 0 ? "no call threw what it may not" : wrong + " calls threw what they may not");
    if (wrong != 0) {
      System.exit(1);
    }
  }
}
