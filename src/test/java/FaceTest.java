import java.lang.reflect.Constructor;
import java.lang.reflect.Field;
import java.lang.reflect.Method;
import java.lang.reflect.Modifier;
import java.util.Arrays;
import java.util.Set;
import java.util.TreeSet;

/** The class shows the document's face and nothing else, and keeps to what can be seen from outside of LANGUAGE.md. */
public final class FaceTest {
  private static final String FACE = "feed 5 text 1 fault 1 branch 2 title 2 item 2 holdOf 2 van 2 stop 2 hold 2 "
      + "cancel 1 recall 1 renew 1 days 1 undo 0 owed 2 loans 2 queue 2 inVan 2 waits 2 arrival 3 leg 4 legs 3 given 2 "
      + "lentOn 1 ifHold 2 ifCancelled 2 ifNoVan 2 where 2 served 1 meet 2 every 2 farthest 2 longest 1 lender 1 "
      + "nextDue 1 path 5 reach 3 center 1 ifStop 4 ifRoom 3 astray 1 waited 1 meanWait 0 busiest 1 ifClosed 3 "
      + "ifPeriod 3 visits 2 thereAndBack 3 bestDay 3 log 2 ranked 1 count 1";
  private static final Set<String> THROWING = Set.of("branch", "title", "item", "holdOf");

  private static int wrong = 0;

  private static void must(boolean good, String what) {
    if (!good) {
      wrong++;
      System.out.println("not so: " + what);
    }
  }

  private static void checkMethods(Set<String> publicNames) {
    String[] face = FACE.split(" ");
    for (int k = 0; k < face.length; k += 2) {
      Class<?>[] types = new Class<?>[Integer.parseInt(face[k + 1])];
      Arrays.fill(types, int.class);
      try {
        Method m = LoanVans.class.getDeclaredMethod(face[k], types);
        must(m.getModifiers() == Modifier.PUBLIC, face[k] + " is public and no more");
        must(m.getReturnType() == (face[k].equals("cancel") ? boolean.class : int.class), "what " + face[k] + " answers");
        String thrown = Arrays.toString(m.getExceptionTypes());
        must(thrown.contains("IndexOutOfBoundsException") == THROWING.contains(face[k]), face[k] + " throws");
        must(thrown.contains("NoSuchElementException") == THROWING.contains(face[k]), face[k] + " throws");
      } catch (NoSuchMethodException e) {
        must(false, "there is " + face[k]);
      }
      publicNames.add(face[k]);
    }
    for (Method m : LoanVans.class.getDeclaredMethods()) {
      boolean ours = Modifier.isPrivate(m.getModifiers());
      must(ours ? !publicNames.contains(m.getName()) : publicNames.contains(m.getName()), m.getName() + " is of its place");
    }
  }

  private static void checkFields() throws IllegalAccessException {
    for (Field f : LoanVans.class.getDeclaredFields()) {
      boolean none = f.getName().equals("NONE");
      must(none == Modifier.isPublic(f.getModifiers()), f.getName() + " is seen only if it is NONE");
      must(none || Modifier.isPrivate(f.getModifiers()), f.getName() + " is private");
    }
    must(LoanVans.NONE == -1, "NONE is -1");
  }

  private static void checkClasses(Set<String> publicNames) {
    Class<?>[] classes = LoanVans.class.getDeclaredClasses();
    must(classes.length <= 12, "twelve classes at most");
    for (Class<?> c : classes) {
      must(Modifier.isStatic(c.getModifiers()) && Modifier.isPrivate(c.getModifiers()), c + " is private and static");
      int fields = 0;
      for (Field f : c.getDeclaredFields()) {
        boolean fixed = Modifier.isStatic(f.getModifiers());
        must(!fixed || Modifier.isFinal(f.getModifiers()), f + " is no static state");
        fields += fixed ? 0 : 1;
      }
      must(fields <= 20, c + " has twenty fields at most");
      for (Method m : c.getDeclaredMethods()) {
        must(m.getParameterCount() <= 7, m + " has seven parameters at most");
        must(!publicNames.contains(m.getName()), m + " has a name of its own");
      }
    }
  }

  public static void main(String[] args) throws IllegalAccessException {
    must(LoanVans.class.getModifiers() == (Modifier.PUBLIC | Modifier.FINAL), "public and final");
    Constructor<?>[] all = LoanVans.class.getDeclaredConstructors();
    must(all.length == 1 && all[0].getParameterCount() == 0 && Modifier.isPublic(all[0].getModifiers()), "one constructor");
    Set<String> publicNames = new TreeSet<>();
    checkMethods(publicNames);
    checkFields();
    checkClasses(publicNames);
    System.out.println(wrong == 0 ? "the face is the document's" : wrong + " things are not so");
    if (wrong != 0) {
      System.exit(1);
    }
  }
}
