/** Counts and prints the answers that are not as due. */
final class Checks {
  private int wrong = 0;
  private int asked = 0;

  void due(String what, long got, long want) {
    asked++;
    if (got != want) {
      tell(what + " answered " + got + ", due is " + want);
    }
  }

  void due(String what, boolean got, boolean want) {
    due(what, got ? 1 : 0, want ? 1 : 0);
  }

  void dueDouble(String what, double got, double want) {
    asked++;
    if (!(got == want)) {
      tell(what + " answered " + got + ", due is " + want);
    }
  }

  void dueText(String what, String got, String want) {
    asked++;
    if (!got.equals(want)) {
      tell(what + " answered " + got + ", due is " + want);
    }
  }

  /** The call throws exactly this class, no subclass, and what one can see of the kitchen stays. */
  void refused(String what, KitchenSpits kitchen, Class<?> want, Runnable call) {
    long before = kitchen.digest();
    String got = "nothing";
    try {
      call.run();
    } catch (Throwable thrown) {
      got = thrown.getClass().getName();
    }
    dueText(what + " throws", got, want.getName());
    due(what + ", digest() behind it", kitchen.digest(), before);
  }

  /** A number that stands for no fire, spit or roast, or for no side of one. */
  static int[] outside(int size) {
    return new int[] {-1, size, size + 1, Integer.MIN_VALUE, Integer.MAX_VALUE};
  }

  /** Wrong numbers beside the range from least to most. */
  static int[] beside(int least, int most) {
    return new int[] {least - 1, most + 1, Integer.MIN_VALUE, Integer.MAX_VALUE};
  }

  void tell(String line) {
    wrong++;
    if (wrong <= 100) {
      System.out.println(line);
    }
  }

  void end(String name) {
    System.out.println(name + ": " + asked + " answers, " + wrong + " not as due");
    if (wrong != 0) {
      System.exit(1);
    }
  }
}
