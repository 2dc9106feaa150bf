import java.util.ArrayList;
import java.util.List;

/** Kitchens to begin a test with, made by few calls, as an object is good for 512 of them. */
final class Kitchens {
  private Kitchens() {
  }

  /** One fire with logs, and a spit at each of these feet. */
  static KitchenSpits kitchen(int logs, int... feet) {
    KitchenSpits k = new KitchenSpits();
    k.addFire();
    k.layLogs(0, logs);
    for (int f : feet) {
      k.addSpit(0, f);
    }
    return k;
  }

  /** At the minute 9 with a heat of 9 and 38 logs, which burn up to the minute 195. */
  static KitchenSpits hot(int... feet) {
    KitchenSpits k = kitchen(40, feet);
    k.pass(9);
    return k;
  }

  static KitchenSpits withAllRoastsHung(int... feet) {
    KitchenSpits k = hot(feet);
    for (int i = 0; i < 16; i++) {
      k.hang(0, 1);
      k.takeDown(0);
    }
    return k;
  }

  /**
   * One roast with sides just so brown, side 0 to the fire, 1 foot from a fire that is out. The minute
   * is one that 5 divides, and the pan is empty.
   */
  static KitchenSpits browned(int pounds, int... brown) {
    KitchenSpits k = new KitchenSpits();
    k.addFire();
    k.addSpit(0, 3);
    k.hang(0, pounds);
    for (int side = 0; side < 4; side++) {
      brownBy(k, brown[side]);
      k.emptyPan(0);
      k.turnNow(0);
    }
    return k;
  }

  /** The side to the fire alone, from a fire that is out and at a minute that 5 divides, to such again. */
  private static void brownBy(KitchenSpits k, int more) {
    int lacking = more;
    k.moveSpit(0, 3);
    for (; lacking >= 8; lacking -= 8) {
      // The heats are 0 to 6 and back to 0, the glows 3 feet away 1, 1, 1, 2, 1, 1 and 1.
      k.layLogs(0, 2);
      k.pass(15);
    }
    k.moveSpit(0, 1);
    for (; lacking > 0; lacking--) {
      brownBy1(k);
    }
  }

  /** One log that burns at once makes a heat of 1 for one minute. */
  static void brownBy1(KitchenSpits k) {
    warmBy1(k);
    k.pass(4);
  }

  /** The next minute, and this one alone, has a glow of 1 at 1 foot. */
  static void warmBy1(KitchenSpits k) {
    k.layLogs(0, 1);
    k.pass(1);
  }

  /** Six spits with 20 drippings in each pan, at a fire with a heat of 9 and without logs, no roasts. */
  static KitchenSpits fullPans() {
    KitchenSpits k = kitchen(6, 1, 1, 1, 1, 1, 1);
    k.pass(6);
    for (int spit = 0; spit < 6; spit++) {
      k.hang(spit, 12);
    }
    k.pass(20);
    for (int spit = 0; spit < 6; spit++) {
      k.takeDown(spit);
    }
    return k;
  }

  /**
   * Six spits at a fire with a heat of 2 and without logs, a new roast on each, numbered from 6; such
   * roasts as flare by and by keep the fire low. The first spit is turned.
   */
  static KitchenSpits keptLow(int[] feet, int[] pounds, int[] pans, boolean[] wet, int each) {
    KitchenSpits k = kitchen(6, 1, 1, 1, 1, 1, 1);
    k.pass(6);
    for (int spit = 0; spit < 6; spit++) {
      k.hang(spit, 12);
    }
    k.pass(20);
    for (int spit = 0; spit < 6; spit++) {
      int left = 20;
      int basted = wet[spit] ? 2 : 0;
      while (left > pans[spit] + basted) {
        left = k.baste(spit);
      }
      k.takeDown(spit);
      k.moveSpit(spit, feet[spit]);
    }
    k.pass(7);
    for (int spit = 0; spit < 6; spit++) {
      k.hang(spit, pounds[spit]);
      if (wet[spit]) {
        k.baste(spit);
      }
    }
    k.turnEach(0, each);
    return k;
  }

  /** 3 fires, 6 spits and 16 roasts, of which the last five hang; the sixth spit has none. */
  static KitchenSpits full() {
    KitchenSpits k = kitchen(40, 1, 2);
    k.addFire();
    k.addFire();
    k.layLogs(1, 3);
    k.layLogs(2, 1);
    k.addSpit(1, 1);
    k.addSpit(1, 3);
    k.addSpit(2, 2);
    k.addSpit(0, 1);
    k.pass(6);
    for (int roast = 0; roast < 11; roast++) {
      k.hang(5, 1 + roast);
      k.pass(1);
      k.takeDown(5);
    }
    for (int spit = 0; spit < 5; spit++) {
      k.turnEach(spit, 2 + spit);
      k.hang(spit, 12 - 2 * spit);
    }
    k.pass(5);
    k.baste(0);
    return k;
  }

  /** Minutes go by, up to 200, until the roast is done; -1 if it is not by then. Up to 401 calls. */
  static int passUntilDone(KitchenSpits k, int roast) {
    for (int minutes = 0; minutes < 200; minutes++) {
      if (k.isDone(roast)) {
        return minutes;
      }
      k.pass(1);
    }
    return k.isDone(roast) ? 200 : -1;
  }

  static int passUntilBurnt(KitchenSpits k, int roast) {
    for (int minutes = 0; minutes < 200; minutes++) {
      if (k.isBurnt(roast)) {
        return minutes;
      }
      k.pass(1);
    }
    return k.isBurnt(roast) ? 200 : -1;
  }

  /** What every question answers; the full kitchen is asked some 280 of them. */
  static List<String> seen(KitchenSpits k) {
    List<String> all = new ArrayList<>();
    add(all, "minute", k.minute(), "feast", k.feast(), "doneAtFeast", k.doneAtFeast(),
        "digest", k.digest(), "fires", k.fires(), "spits", k.spits(), "roasts", k.roasts());
    all.add("meanBrown = " + k.meanBrown());
    for (int i = 0; i < k.fires(); i++) {
      add(all, "logsOf " + i, k.logsOf(i), "heatOf " + i, k.heatOf(i));
    }
    for (int i = 0; i < k.spits(); i++) {
      add(all, "fireOf " + i, k.fireOf(i), "feetOf " + i, k.feetOf(i), "glowAt " + i, k.glowAt(i),
          "turnedEach " + i, k.turnedEach(i), "drippingsOf " + i, k.drippingsOf(i),
          "roastOn " + i, k.roastOn(i), "bestEach " + i, k.bestEach(i));
    }
    for (int i = 0; i < k.roasts(); i++) {
      add(all, "poundsOf " + i, k.poundsOf(i), "spitOf " + i, k.spitOf(i),
          "sideToFire " + i, k.sideToFire(i), "fatOf " + i, k.fatOf(i), "wetFor " + i, k.wetFor(i),
          "isDone " + i, k.isDone(i), "isBurnt " + i, k.isBurnt(i),
          "minutesUntilDone " + i, k.minutesUntilDone(i), "minutesUntilBurnt " + i, k.minutesUntilBurnt(i));
      for (int side = 0; side < 4; side++) {
        add(all, "brownOf " + i + " " + side, k.brownOf(i, side));
      }
    }
    if (k.roasts() < 16) {
      add(all, "bestSpit 1", k.bestSpit(1), "bestSpit 6", k.bestSpit(6), "bestSpit 12", k.bestSpit(12));
    }
    return all;
  }

  private static void add(List<String> all, Object... namesAndAnswers) {
    for (int i = 0; i + 1 < namesAndAnswers.length; i += 2) {
      all.add(namesAndAnswers[i] + " = " + namesAndAnswers[i + 1]);
    }
  }

  /** What no question tells, as the counts of the spits, shows in the minutes behind. */
  static List<String> seenLater(KitchenSpits k) {
    List<String> all = new ArrayList<>();
    for (int i = 1; i <= 18; i++) {
      all.add("flares " + i + " minutes behind = " + k.pass(1));
      all.add("digest " + i + " minutes behind = " + k.digest());
    }
    return all;
  }
}
