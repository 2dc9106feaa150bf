import java.lang.reflect.Constructor;
import java.lang.reflect.Field;
import java.lang.reflect.Member;
import java.lang.reflect.Method;
import java.lang.reflect.Modifier;
import java.util.Arrays;
import java.util.List;
import java.util.TreeSet;

/** The class has the document's face and shows nothing else. */
public final class FaceTest {
  private static final String BOUNDS = "IndexOutOfBoundsException";
  private static final String ARGUMENT = "IllegalArgumentException";
  private static final String STATE = "IllegalStateException";

  private static final List<String> FACE = List.of(
      "int addFire() " + STATE,
      "int layLogs(int,int) " + BOUNDS + "," + ARGUMENT,
      "int addSpit(int,int) " + BOUNDS + "," + ARGUMENT + "," + STATE,
      "int moveSpit(int,int) " + BOUNDS + "," + ARGUMENT,
      "int turnEach(int,int) " + BOUNDS + "," + ARGUMENT,
      "int setFeast(int) " + ARGUMENT,
      "int hang(int,int) " + BOUNDS + "," + ARGUMENT + "," + STATE,
      "int turnNow(int) " + BOUNDS + "," + STATE,
      "int baste(int) " + BOUNDS + "," + STATE,
      "int takeDown(int) " + BOUNDS + "," + STATE,
      "int emptyPan(int) " + BOUNDS,
      "int pass(int) " + ARGUMENT,
      "int minute() ",
      "int feast() ",
      "int fires() ",
      "int logsOf(int) " + BOUNDS,
      "int heatOf(int) " + BOUNDS,
      "int spits() ",
      "int fireOf(int) " + BOUNDS,
      "int feetOf(int) " + BOUNDS,
      "int glowAt(int) " + BOUNDS,
      "int turnedEach(int) " + BOUNDS,
      "int drippingsOf(int) " + BOUNDS,
      "int roastOn(int) " + BOUNDS,
      "int roasts() ",
      "int poundsOf(int) " + BOUNDS,
      "int spitOf(int) " + BOUNDS,
      "int sideToFire(int) " + BOUNDS,
      "int brownOf(int,int) " + BOUNDS,
      "int fatOf(int) " + BOUNDS,
      "int wetFor(int) " + BOUNDS,
      "boolean isDone(int) " + BOUNDS,
      "boolean isBurnt(int) " + BOUNDS,
      "int minutesUntilDone(int) " + BOUNDS,
      "int minutesUntilBurnt(int) " + BOUNDS,
      "int doneAtFeast() ",
      "int bestEach(int) " + BOUNDS,
      "int bestSpit(int) " + ARGUMENT + "," + STATE,
      "double meanBrown() ",
      "long digest() ");

  private static final Checks CHECKS = new Checks();

  public static void main(String[] args) {
    CHECKS.due("the class is public and final, modifiers",
        KitchenSpits.class.getModifiers(), Modifier.PUBLIC | Modifier.FINAL);
    Constructor<?>[] constructors = KitchenSpits.class.getDeclaredConstructors();
    CHECKS.due("constructors", constructors.length, 1);
    CHECKS.due("the constructor's modifiers", constructors[0].getModifiers(), Modifier.PUBLIC);
    CHECKS.due("the constructor's parameters", constructors[0].getParameterCount(), 0);
    checkMethods();
    checkFields();
    checkClassesInside();
    CHECKS.end("FaceTest");
  }

  private static void checkMethods() {
    TreeSet<String> shown = new TreeSet<>();
    TreeSet<String> shownNames = new TreeSet<>();
    TreeSet<String> hiddenNames = new TreeSet<>();
    for (Method method : KitchenSpits.class.getDeclaredMethods()) {
      if (Modifier.isPrivate(method.getModifiers())) {
        hiddenNames.add(method.getName());
      } else {
        CHECKS.due("modifiers of " + method.getName(), method.getModifiers(), Modifier.PUBLIC);
        shown.add(textOf(method));
        shownNames.add(method.getName());
      }
    }
    CHECKS.dueText("the methods of the face", shown.toString(), new TreeSet<>(FACE).toString());
    hiddenNames.retainAll(shownNames);
    CHECKS.dueText("private methods with a public one's name", hiddenNames.toString(), "[]");
  }

  private static void checkFields() {
    for (Field field : KitchenSpits.class.getDeclaredFields()) {
      checkHidden(field);
      if (Modifier.isStatic(field.getModifiers())) {
        CHECKS.due("the static field " + field.getName() + " is final",
            Modifier.isFinal(field.getModifiers()), true);
      }
    }
  }

  private static void checkHidden(Member member) {
    CHECKS.due(member.getName() + " is private", Modifier.isPrivate(member.getModifiers()), true);
  }

  private static void checkClassesInside() {
    for (Class<?> inside : KitchenSpits.class.getDeclaredClasses()) {
      int modifiers = inside.getModifiers();
      CHECKS.due(inside.getName() + " is neither public nor protected",
          Modifier.isPublic(modifiers) || Modifier.isProtected(modifiers), false);
      CHECKS.due(inside.getName() + " is static", Modifier.isStatic(modifiers), true);
    }
  }

  private static String textOf(Method method) {
    return method.getReturnType().getSimpleName() + " " + method.getName()
        + "(" + namesOf(method.getParameterTypes()) + ") " + namesOf(method.getExceptionTypes());
  }

  private static String namesOf(Class<?>[] classes) {
    return String.join(",", Arrays.stream(classes).map(Class::getSimpleName).toList());
  }
}
