import java.util.ArrayList;
import java.util.List;

/**
 * Each call with the numbers at its edges, beside them and far outside, in an empty, a small, a busy
 * and a full kitchen: which exception is due, the first named of several, and that a refused call and
 * a question leave all as it was, by what all other calls answer then and in the minutes behind.
 */
public final class RefusalsTest {
  private static final Class<?> BOUNDS = IndexOutOfBoundsException.class;
  private static final Class<?> ARGUMENT = IllegalArgumentException.class;
  private static final Class<?> STATE = IllegalStateException.class;

  private static final Checks CHECKS = new Checks();

  private interface Call {
    long on(KitchenSpits k);
  }

  private interface CallWith {
    long on(KitchenSpits k, int number);
  }

  /** A kitchen of which each call gets a new one, and what is known of it by how it is made. */
  private abstract static class Place {
    final String name;
    final int fires;
    final int roasts;
    /** The drippings of each spit. */
    final int[] drippings;
    /** The roast of each spit, -1 for none. */
    final int[] on;
    final List<String> seen;
    final List<String> later;

    Place(String name, int fires, int roasts, int[] drippings, int[] on) {
      this.name = name;
      this.fires = fires;
      this.roasts = roasts;
      this.drippings = drippings;
      this.on = on;
      KitchenSpits untouched = make();
      seen = Kitchens.seen(untouched);
      later = Kitchens.seenLater(untouched);
    }

    abstract KitchenSpits make();

    int spits() {
      return on.length;
    }

    boolean noRoastOn(int spit) {
      return spit >= 0 && spit < on.length && on[spit] < 0;
    }

    boolean roastOn(int spit) {
      return spit >= 0 && spit < on.length && on[spit] >= 0;
    }

    boolean fewDrippings(int spit) {
      return spit >= 0 && spit < drippings.length && drippings[spit] < 2;
    }
  }

  public static void main(String[] args) {
    for (Place place : places()) {
      isAsKnown(place);
      theKitchen(place);
      roasts(place);
      firesAndSpits(place);
      whatRoastsAre(place);
      whatWouldBe(place);
      neverRefused(place);
    }
    CHECKS.end("RefusalsTest");
  }

  // ---- the kitchens.

  private static List<Place> places() {
    return List.of(empty(), small(), busy(), full());
  }

  private static Place empty() {
    return new Place("the empty kitchen", 0, 0, new int[] {}, new int[] {}) {
      KitchenSpits make() {
        return new KitchenSpits();
      }
    };
  }

  private static Place small() {
    return new Place("the small kitchen", 1, 0, new int[] {0}, new int[] {-1}) {
      KitchenSpits make() {
        KitchenSpits k = Kitchens.kitchen(3, 2);
        k.turnEach(0, 3);
        return k;
      }
    };
  }

  /** Refuses baste() for one dripping, for none, and for no roast by a pan with enough. */
  private static Place busy() {
    return new Place("the busy kitchen", 2, 4, new int[] {1, 2, 4, 0}, new int[] {2, 1, -1, 3}) {
      KitchenSpits make() {
        KitchenSpits k = Kitchens.hot(1, 1, 1);
        k.addFire();
        k.addSpit(1, 3);
        k.turnEach(0, 4);
        k.turnEach(1, 3);
        k.turnEach(2, 5);
        k.hang(2, 12);
        k.pass(4);
        k.takeDown(2);
        k.hang(1, 12);
        k.pass(3);
        k.baste(1);
        k.hang(0, 2);
        k.hang(3, 7);
        k.pass(1);
        return k;
      }
    };
  }

  private static Place full() {
    int[] drippings = {3, 5, 2, 0, 0, 11};
    return new Place("the full kitchen", 3, 16, drippings, new int[] {11, 12, 13, 14, 15, -1}) {
      KitchenSpits make() {
        return Kitchens.full();
      }
    };
  }

  private static void isAsKnown(Place place) {
    KitchenSpits k = place.make();
    CHECKS.due("16: fires() of " + place.name, k.fires(), place.fires);
    CHECKS.due("19: spits() of " + place.name, k.spits(), place.spits());
    CHECKS.due("26: roasts() of " + place.name, k.roasts(), place.roasts);
    for (int spit = 0; spit < place.spits(); spit++) {
      CHECKS.due("24: drippingsOf(" + spit + ") of " + place.name, k.drippingsOf(spit), place.drippings[spit]);
      CHECKS.due("25: roastOn(" + spit + ") of " + place.name, k.roastOn(spit), place.on[spit]);
    }
  }

  // ---- promises 2 to 7.

  private static void theKitchen(Place place) {
    changes("2: addFire()", place, due(false, false, place.fires >= 3), KitchenSpits::addFire);
    for (int fire : numbersOf(place.fires)) {
      boolean noSuch = !within(fire, 0, place.fires - 1);
      for (int logs : edges(1, 40)) {
        changes("3: layLogs(" + fire + ", " + logs + ")", place,
            due(noSuch, !within(logs, 1, 40), false), k -> k.layLogs(fire, logs));
      }
      for (int feet : edges(1, 3)) {
        changes("4: addSpit(" + fire + ", " + feet + ")", place,
            due(noSuch, !within(feet, 1, 3), place.spits() >= 6), k -> k.addSpit(fire, feet));
      }
    }
    for (int spit : numbersOf(place.spits())) {
      boolean noSuch = !within(spit, 0, place.spits() - 1);
      for (int feet : edges(1, 3)) {
        changes("5: moveSpit(" + spit + ", " + feet + ")", place,
            due(noSuch, !within(feet, 1, 3), false), k -> k.moveSpit(spit, feet));
      }
      for (int minutes : edges(0, 9)) {
        changes("6: turnEach(" + spit + ", " + minutes + ")", place,
            due(noSuch, !within(minutes, 0, 9), false), k -> k.turnEach(spit, minutes));
      }
    }
    for (int minute : edges(0, 5000)) {
      changes("7: setFeast(" + minute + ")", place,
          due(false, !within(minute, 0, 5000), false), k -> k.setFeast(minute));
    }
  }

  // ---- promises 8 to 13.

  private static void roasts(Place place) {
    for (int spit : numbersOf(place.spits())) {
      boolean noSuch = !within(spit, 0, place.spits() - 1);
      for (int pounds : edges(1, 12)) {
        changes("8: hang(" + spit + ", " + pounds + ")", place,
            due(noSuch, !within(pounds, 1, 12), place.roastOn(spit) || place.roasts >= 16),
            k -> k.hang(spit, pounds));
      }
      Class<?> withoutRoast = due(noSuch, false, place.noRoastOn(spit));
      changes("9: turnNow(" + spit + ")", place, withoutRoast, k -> k.turnNow(spit));
      changes("10: baste(" + spit + ")", place,
          due(noSuch, false, place.noRoastOn(spit) || place.fewDrippings(spit)), k -> k.baste(spit));
      changes("11: takeDown(" + spit + ")", place, withoutRoast, k -> k.takeDown(spit));
      changes("12: emptyPan(" + spit + ")", place, due(noSuch, false, false), k -> k.emptyPan(spit));
    }
    for (int minutes : edges(1, 200)) {
      changes("13: pass(" + minutes + ")", place,
          due(false, !within(minutes, 1, 200), false), k -> k.pass(minutes));
    }
  }

  // ---- promises 17 to 34.

  private static void firesAndSpits(Place place) {
    asksOf(place, place.fires, "17: logsOf", KitchenSpits::logsOf);
    asksOf(place, place.fires, "18: heatOf", KitchenSpits::heatOf);
    asksOf(place, place.spits(), "20: fireOf", KitchenSpits::fireOf);
    asksOf(place, place.spits(), "21: feetOf", KitchenSpits::feetOf);
    asksOf(place, place.spits(), "22: glowAt", KitchenSpits::glowAt);
    asksOf(place, place.spits(), "23: turnedEach", KitchenSpits::turnedEach);
    asksOf(place, place.spits(), "24: drippingsOf", KitchenSpits::drippingsOf);
    asksOf(place, place.spits(), "25: roastOn", KitchenSpits::roastOn);
  }

  private static void whatRoastsAre(Place place) {
    asksOf(place, place.roasts, "27: poundsOf", KitchenSpits::poundsOf);
    asksOf(place, place.roasts, "28: spitOf", KitchenSpits::spitOf);
    asksOf(place, place.roasts, "29: sideToFire", KitchenSpits::sideToFire);
    asksOf(place, place.roasts, "31: fatOf", KitchenSpits::fatOf);
    asksOf(place, place.roasts, "32: wetFor", KitchenSpits::wetFor);
    asksOf(place, place.roasts, "33: isDone", (k, roast) -> k.isDone(roast) ? 1 : 0);
    asksOf(place, place.roasts, "34: isBurnt", (k, roast) -> k.isBurnt(roast) ? 1 : 0);
    for (int roast : numbersOf(place.roasts)) {
      boolean noRoast = !within(roast, 0, place.roasts - 1);
      for (int side : edges(0, 3)) {
        asks("30: brownOf(" + roast + ", " + side + ")", place,
            due(noRoast || !within(side, 0, 3), false, false), k -> k.brownOf(roast, side));
      }
    }
  }

  // ---- promises 35 to 41.

  private static void whatWouldBe(Place place) {
    asksOf(place, place.roasts, "35: minutesUntilDone", KitchenSpits::minutesUntilDone);
    asksOf(place, place.roasts, "36: minutesUntilBurnt", KitchenSpits::minutesUntilBurnt);
    asksOf(place, place.spits(), "38: bestEach", KitchenSpits::bestEach);
    for (int pounds : edges(1, 12)) {
      asks("39: bestSpit(" + pounds + ")", place,
          due(false, !within(pounds, 1, 12), place.roasts >= 16), k -> k.bestSpit(pounds));
    }
  }

  private static void neverRefused(Place place) {
    asks("14: minute()", place, null, KitchenSpits::minute);
    asks("15: feast()", place, null, KitchenSpits::feast);
    asks("16: fires()", place, null, KitchenSpits::fires);
    asks("19: spits()", place, null, KitchenSpits::spits);
    asks("26: roasts()", place, null, KitchenSpits::roasts);
    asks("37: doneAtFeast()", place, null, KitchenSpits::doneAtFeast);
    asks("40: meanBrown()", place, null, k -> (long) k.meanBrown());
    asks("41: digest()", place, null, KitchenSpits::digest);
  }

  // ---- how it is looked at.

  /** All numbers of so many things, those beside them, and the smallest and the largest. */
  private static List<Integer> numbersOf(int size) {
    List<Integer> all = new ArrayList<>(List.of(Integer.MIN_VALUE, Integer.MAX_VALUE));
    for (int number = -1; number <= size; number++) {
      all.add(number);
    }
    return all;
  }

  private static int[] edges(int least, int most) {
    return new int[] {Integer.MIN_VALUE, least - 1, least, most, most + 1, Integer.MAX_VALUE};
  }

  private static boolean within(int number, int least, int most) {
    return number >= least && number <= most;
  }

  /** The first named exception of those that apply; null for none. */
  private static Class<?> due(boolean noSuch, boolean wrongArgument, boolean wrongState) {
    return noSuch ? BOUNDS : wrongArgument ? ARGUMENT : wrongState ? STATE : null;
  }

  private static void asksOf(Place place, int size, String name, CallWith call) {
    for (int number : numbersOf(size)) {
      asks(name + "(" + number + ")", place, due(!within(number, 0, size - 1), false, false),
          k -> call.on(k, number));
    }
  }

  private static void changes(String what, Place place, Class<?> due, Call call) {
    KitchenSpits k = place.make();
    if (throwsAsDue(what, place, due, k, call)) {
      isUntouched(what, place, k);
    }
  }

  private static void asks(String what, Place place, Class<?> due, Call call) {
    KitchenSpits k = place.make();
    throwsAsDue(what, place, due, k, call);
    isUntouched(what, place, k);
  }

  /** Answers whether it threw. */
  private static boolean throwsAsDue(String what, Place place, Class<?> due, KitchenSpits k, Call call) {
    String got = "nothing";
    try {
      call.on(k);
    } catch (Throwable thrown) {
      got = thrown.getClass().getName();
    }
    CHECKS.dueText(what + " in " + place.name + ", what it throws", got, due == null ? "nothing" : due.getName());
    return !got.equals("nothing");
  }

  private static void isUntouched(String what, Place place, KitchenSpits k) {
    same(what, place, Kitchens.seen(k), place.seen);
    same(what, place, Kitchens.seenLater(k), place.later);
  }

  private static void same(String what, Place place, List<String> got, List<String> want) {
    String where = what + " in " + place.name + ", behind it: ";
    CHECKS.due(where + "number of answers", got.size(), want.size());
    for (int i = 0; i < got.size() && i < want.size(); i++) {
      CHECKS.dueText(where + want.get(i).split(" = ")[0], got.get(i), want.get(i));
    }
  }
}
