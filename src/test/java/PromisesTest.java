/** Each promise of the document by hand: ordinary inputs, the edges that it names, wrong inputs. */
public final class PromisesTest {
  private static final Class<?> BOUNDS = IndexOutOfBoundsException.class;
  private static final Class<?> ARGUMENT = IllegalArgumentException.class;
  private static final Class<?> STATE = IllegalStateException.class;

  private static final Checks CHECKS = new Checks();

  public static void main(String[] args) {
    newObject();
    addFire();
    layLogs();
    addSpit();
    moveSpit();
    turnEach();
    setFeast();
    hang();
    turnNow();
    baste();
    takeDown();
    emptyPan();
    pass();
    passGivesGlow();
    passGivesLessGlowToTheWet();
    passDripsAndFlares();
    passTurns();
    passHeats();
    minuteAndFeast();
    firesAndTheirs();
    spitsAndTheirs();
    roastsAndTheirs();
    isDoneAndIsBurnt();
    minutesUntilDone();
    minutesUntilBurnt();
    looksAheadAgreeWithPassing();
    doneAtFeast();
    bestEach();
    bestEachAgreesWithTrying();
    bestSpit();
    bestSpitAgreesWithTrying();
    meanBrown();
    digest();
    CHECKS.end("PromisesTest");
  }

  private static void dueBrown(String when, KitchenSpits k, int roast, int... want) {
    for (int side = 0; side < 4; side++) {
      CHECKS.due("brownOf(" + roast + ", " + side + ") " + when, k.brownOf(roast, side), want[side]);
    }
  }

  // ---- promises 1 to 7: the kitchen.

  private static void newObject() {
    KitchenSpits k = new KitchenSpits();
    CHECKS.due("1: minute()", k.minute(), 0);
    CHECKS.due("1: feast()", k.feast(), 120);
    CHECKS.due("1: fires()", k.fires(), 0);
    CHECKS.due("1: spits()", k.spits(), 0);
    CHECKS.due("1: roasts()", k.roasts(), 0);
    CHECKS.refused("1: logsOf(0)", k, BOUNDS, () -> k.logsOf(0));
    CHECKS.refused("1: feetOf(0)", k, BOUNDS, () -> k.feetOf(0));
    CHECKS.refused("1: poundsOf(0)", k, BOUNDS, () -> k.poundsOf(0));
    KitchenSpits other = new KitchenSpits();
    other.addFire();
    CHECKS.due("1: fires() beside another kitchen", k.fires(), 0);
  }

  private static void addFire() {
    KitchenSpits k = new KitchenSpits();
    for (int fire = 0; fire < 3; fire++) {
      CHECKS.due("2: addFire()", k.addFire(), fire);
      CHECKS.due("2: fires()", k.fires(), fire + 1);
      CHECKS.due("2: logsOf()", k.logsOf(fire), 0);
      CHECKS.due("2: heatOf()", k.heatOf(fire), 0);
    }
    CHECKS.refused("2: addFire() with 3", k, STATE, k::addFire);
    CHECKS.due("2: fires() behind it", k.fires(), 3);
    KitchenSpits later = Kitchens.hot();
    CHECKS.due("2: addFire() later", later.addFire(), 1);
    CHECKS.due("2: heatOf() of one added later", later.heatOf(1), 0);
  }

  private static void layLogs() {
    KitchenSpits k = new KitchenSpits();
    CHECKS.refused("3: layLogs() without fires", k, BOUNDS, () -> k.layLogs(0, 1));
    k.addFire();
    k.addFire();
    CHECKS.due("3: layLogs(0, 1)", k.layLogs(0, 1), 1);
    CHECKS.due("3: layLogs(0, 38)", k.layLogs(0, 38), 39);
    CHECKS.due("3: layLogs(0, 2)", k.layLogs(0, 2), 40);
    CHECKS.due("3: layLogs(0, 40)", k.layLogs(0, 40), 40);
    CHECKS.due("3: logsOf(0)", k.logsOf(0), 40);
    CHECKS.due("3: logsOf(1)", k.logsOf(1), 0);
    CHECKS.due("3: layLogs(1, 40)", k.layLogs(1, 40), 40);
    for (int fire : Checks.outside(2)) {
      CHECKS.refused("3: layLogs(" + fire + ", 5)", k, BOUNDS, () -> k.layLogs(fire, 5));
      CHECKS.refused("3: layLogs(" + fire + ", 0)", k, BOUNDS, () -> k.layLogs(fire, 0));
    }
    KitchenSpits few = Kitchens.kitchen(7);
    for (int logs : Checks.beside(1, 40)) {
      CHECKS.refused("3: layLogs(0, " + logs + ")", few, ARGUMENT, () -> few.layLogs(0, logs));
    }
    CHECKS.due("3: logsOf(0) behind refusals", few.logsOf(0), 7);
  }

  private static void addSpit() {
    KitchenSpits k = new KitchenSpits();
    CHECKS.refused("4: addSpit() without fires", k, BOUNDS, () -> k.addSpit(0, 1));
    k.addFire();
    k.addFire();
    for (int fire : Checks.outside(2)) {
      CHECKS.refused("4: addSpit(" + fire + ", 1)", k, BOUNDS, () -> k.addSpit(fire, 1));
      CHECKS.refused("4: addSpit(" + fire + ", 4)", k, BOUNDS, () -> k.addSpit(fire, 4));
    }
    for (int feet : Checks.beside(1, 3)) {
      CHECKS.refused("4: addSpit(0, " + feet + ")", k, ARGUMENT, () -> k.addSpit(0, feet));
    }
    for (int spit = 0; spit < 6; spit++) {
      CHECKS.due("4: addSpit()", k.addSpit(spit % 2, 1 + spit % 3), spit);
      CHECKS.due("4: spits()", k.spits(), spit + 1);
      CHECKS.due("4: fireOf()", k.fireOf(spit), spit % 2);
      CHECKS.due("4: feetOf()", k.feetOf(spit), 1 + spit % 3);
      CHECKS.due("4: turnedEach()", k.turnedEach(spit), 0);
      CHECKS.due("4: drippingsOf()", k.drippingsOf(spit), 0);
      CHECKS.due("4: roastOn()", k.roastOn(spit), -1);
    }
    CHECKS.refused("4: addSpit(1, 1) with 6", k, STATE, () -> k.addSpit(1, 1));
    CHECKS.refused("4: addSpit(1, 0) with 6", k, ARGUMENT, () -> k.addSpit(1, 0));
    CHECKS.refused("4: addSpit(2, 0) with 6", k, BOUNDS, () -> k.addSpit(2, 0));
    CHECKS.refused("4: addSpit(2, 1) with 6", k, BOUNDS, () -> k.addSpit(2, 1));
    CHECKS.due("4: spits() behind it", k.spits(), 6);
  }

  private static void moveSpit() {
    KitchenSpits k = Kitchens.hot(1, 2);
    CHECKS.due("5: moveSpit(0, 3)", k.moveSpit(0, 3), 1);
    CHECKS.due("5: feetOf(0)", k.feetOf(0), 3);
    CHECKS.due("5: glowAt(0)", k.glowAt(0), 3);
    CHECKS.due("5: moveSpit(0, 3)", k.moveSpit(0, 3), 3);
    CHECKS.due("5: moveSpit(0, 1)", k.moveSpit(0, 1), 3);
    CHECKS.due("5: feetOf(0)", k.feetOf(0), 1);
    CHECKS.due("5: feetOf(1)", k.feetOf(1), 2);
    for (int spit : Checks.outside(2)) {
      CHECKS.refused("5: moveSpit(" + spit + ", 2)", k, BOUNDS, () -> k.moveSpit(spit, 2));
      CHECKS.refused("5: moveSpit(" + spit + ", 0)", k, BOUNDS, () -> k.moveSpit(spit, 0));
    }
    for (int feet : Checks.beside(1, 3)) {
      CHECKS.refused("5: moveSpit(0, " + feet + ")", k, ARGUMENT, () -> k.moveSpit(0, feet));
    }
    CHECKS.due("5: feetOf(0) behind refusals", k.feetOf(0), 1);
  }

  private static void turnEach() {
    KitchenSpits k = Kitchens.kitchen(1, 1, 1);
    CHECKS.due("6: turnEach(0, 9)", k.turnEach(0, 9), 0);
    CHECKS.due("6: turnEach(0, 3)", k.turnEach(0, 3), 9);
    CHECKS.due("6: turnEach(0, 0)", k.turnEach(0, 0), 3);
    CHECKS.due("6: turnEach(0, 3)", k.turnEach(0, 3), 0);
    CHECKS.due("6: turnedEach(0)", k.turnedEach(0), 3);
    CHECKS.due("6: turnedEach(1)", k.turnedEach(1), 0);
    for (int spit : Checks.outside(2)) {
      CHECKS.refused("6: turnEach(" + spit + ", 2)", k, BOUNDS, () -> k.turnEach(spit, 2));
      CHECKS.refused("6: turnEach(" + spit + ", 10)", k, BOUNDS, () -> k.turnEach(spit, 10));
    }
    k.hang(0, 5);
    k.pass(2);
    for (int minutes : Checks.beside(0, 9)) {
      CHECKS.refused("6: turnEach(0, " + minutes + ")", k, ARGUMENT, () -> k.turnEach(0, minutes));
    }
    k.pass(1);
    CHECKS.due("6: sideToFire(0), as a refused call leaves the count", k.sideToFire(0), 1);
    k.pass(2);
    k.turnEach(0, 3);
    k.pass(2);
    CHECKS.due("6: sideToFire(0), as the count is 0 then", k.sideToFire(0), 1);
    k.pass(1);
    CHECKS.due("6: sideToFire(0), 3 minutes behind", k.sideToFire(0), 2);
  }

  private static void setFeast() {
    KitchenSpits k = new KitchenSpits();
    CHECKS.due("7: setFeast(0)", k.setFeast(0), 120);
    CHECKS.due("7: setFeast(5000)", k.setFeast(5000), 0);
    CHECKS.due("7: feast()", k.feast(), 5000);
    for (int minute : Checks.beside(0, 5000)) {
      CHECKS.refused("7: setFeast(" + minute + ")", k, ARGUMENT, () -> k.setFeast(minute));
    }
    k.pass(10);
    CHECKS.due("7: setFeast() to a minute that is gone", k.setFeast(3), 5000);
    CHECKS.due("7: feast()", k.feast(), 3);
  }

  // ---- promises 8 to 13: roasts.

  private static void hang() {
    KitchenSpits k = Kitchens.hot(1, 1, 1);
    CHECKS.due("8: hang(1, 12)", k.hang(1, 12), 0);
    CHECKS.due("8: hang(0, 1)", k.hang(0, 1), 1);
    CHECKS.due("8: roasts()", k.roasts(), 2);
    CHECKS.due("8: roastOn(1)", k.roastOn(1), 0);
    CHECKS.due("8: spitOf(1)", k.spitOf(1), 0);
    CHECKS.due("8: poundsOf(0)", k.poundsOf(0), 12);
    CHECKS.due("8: fatOf(0)", k.fatOf(0), 36);
    CHECKS.due("8: fatOf(1)", k.fatOf(1), 3);
    CHECKS.due("8: wetFor(0)", k.wetFor(0), 0);
    CHECKS.due("8: sideToFire(0)", k.sideToFire(0), 0);
    dueBrown("of a new roast", k, 0, 0, 0, 0, 0);
    for (int spit : Checks.outside(3)) {
      CHECKS.refused("8: hang(" + spit + ", 2)", k, BOUNDS, () -> k.hang(spit, 2));
      CHECKS.refused("8: hang(" + spit + ", 0)", k, BOUNDS, () -> k.hang(spit, 0));
    }
    for (int pounds : Checks.beside(1, 12)) {
      CHECKS.refused("8: hang(2, " + pounds + ")", k, ARGUMENT, () -> k.hang(2, pounds));
      CHECKS.refused("8: hang(0, " + pounds + ")", k, ARGUMENT, () -> k.hang(0, pounds));
    }
    CHECKS.refused("8: hang(0, 2) on a spit with a roast", k, STATE, () -> k.hang(0, 2));
    CHECKS.due("8: hang(2, 2) behind refusals", k.hang(2, 2), 2);
    hangUpTo16();
    hangBeginsTheCount();
  }

  private static void hangUpTo16() {
    KitchenSpits k = Kitchens.hot(1);
    for (int roast = 0; roast < 16; roast++) {
      CHECKS.due("8: hang(0, 1)", k.hang(0, 1), roast);
      CHECKS.due("8: takeDown(0)", k.takeDown(0), roast);
    }
    CHECKS.due("8: roasts()", k.roasts(), 16);
    CHECKS.refused("8: hang(0, 1) behind 16", k, STATE, () -> k.hang(0, 1));
    CHECKS.refused("8: hang(0, 13) behind 16", k, ARGUMENT, () -> k.hang(0, 13));
    CHECKS.refused("8: hang(1, 13) behind 16", k, BOUNDS, () -> k.hang(1, 13));
  }

  private static void hangBeginsTheCount() {
    KitchenSpits k = Kitchens.kitchen(1, 1);
    k.turnEach(0, 4);
    k.hang(0, 2);
    k.pass(3);
    CHECKS.refused("8: hang(0, 2) again", k, STATE, () -> k.hang(0, 2));
    k.pass(1);
    CHECKS.due("8: sideToFire(0), as a refused call leaves the count", k.sideToFire(0), 1);
    k.pass(3);
    k.takeDown(0);
    k.hang(0, 2);
    CHECKS.due("8: turnedEach(0) stays", k.turnedEach(0), 4);
    k.pass(3);
    CHECKS.due("8: sideToFire(1), as the count is 0 then", k.sideToFire(1), 0);
    k.pass(1);
    CHECKS.due("8: sideToFire(1), 4 minutes behind", k.sideToFire(1), 1);
  }

  private static void turnNow() {
    KitchenSpits k = Kitchens.kitchen(1, 1, 1);
    k.turnEach(0, 3);
    k.hang(0, 4);
    k.pass(2);
    CHECKS.due("9: turnNow(0)", k.turnNow(0), 1);
    k.pass(1);
    CHECKS.due("9: sideToFire(0), as the count stays", k.sideToFire(0), 2);
    CHECKS.due("9: turnNow(0)", k.turnNow(0), 3);
    CHECKS.due("9: turnNow(0) behind side 3", k.turnNow(0), 0);
    CHECKS.due("9: sideToFire(0)", k.sideToFire(0), 0);
    CHECKS.due("9: turnedEach(0)", k.turnedEach(0), 3);
    for (int spit : Checks.outside(2)) {
      CHECKS.refused("9: turnNow(" + spit + ")", k, BOUNDS, () -> k.turnNow(spit));
    }
    CHECKS.refused("9: turnNow(1) without a roast", k, STATE, () -> k.turnNow(1));
    k.takeDown(0);
    CHECKS.refused("9: turnNow(0) without a roast", k, STATE, () -> k.turnNow(0));
  }

  private static void baste() {
    KitchenSpits k = Kitchens.hot(1, 1);
    k.hang(0, 12);
    CHECKS.refused("10: baste(0) with no drippings", k, STATE, () -> k.baste(0));
    k.pass(1);
    CHECKS.refused("10: baste(0) with 1 dripping", k, STATE, () -> k.baste(0));
    k.pass(1);
    CHECKS.due("10: baste(0) with 2 drippings", k.baste(0), 0);
    CHECKS.due("10: drippingsOf(0)", k.drippingsOf(0), 0);
    CHECKS.due("10: wetFor(0)", k.wetFor(0), 3);
    CHECKS.due("10: fatOf(0)", k.fatOf(0), 34);
    k.pass(5);
    CHECKS.due("10: wetFor(0) 5 minutes behind", k.wetFor(0), 0);
    CHECKS.due("10: baste(0) with 5 drippings", k.baste(0), 3);
    k.pass(1);
    CHECKS.due("10: wetFor(0) a minute behind", k.wetFor(0), 2);
    CHECKS.due("10: baste(0) while it is wet", k.baste(0), 2);
    CHECKS.due("10: wetFor(0), 3 from now on", k.wetFor(0), 3);
    k.takeDown(0);
    CHECKS.refused("10: baste(0) without a roast", k, STATE, () -> k.baste(0));
    CHECKS.refused("10: baste(1) without either", k, STATE, () -> k.baste(1));
    for (int spit : Checks.outside(2)) {
      CHECKS.refused("10: baste(" + spit + ")", k, BOUNDS, () -> k.baste(spit));
    }
  }

  private static void takeDown() {
    KitchenSpits k = Kitchens.hot(1, 1);
    k.turnEach(0, 1);
    k.hang(1, 5);
    k.hang(0, 7);
    k.pass(3);
    k.baste(0);
    k.pass(1);
    CHECKS.due("11: takeDown(0)", k.takeDown(0), 1);
    CHECKS.due("11: roastOn(0)", k.roastOn(0), -1);
    CHECKS.due("11: spitOf(1)", k.spitOf(1), -1);
    CHECKS.due("11: roastOn(1)", k.roastOn(1), 0);
    CHECKS.due("11: roasts()", k.roasts(), 2);
    // Four sides in turn got 9, 9, 9 and, wet, 8.
    for (int time = 0; time < 2; time++) {
      CHECKS.due("11: sideToFire(1)", k.sideToFire(1), 0);
      CHECKS.due("11: wetFor(1)", k.wetFor(1), 2);
      CHECKS.due("11: fatOf(1)", k.fatOf(1), 17);
      dueBrown("of one taken down", k, 1, 14, 15, 14, 14);
      CHECKS.due("11: drippingsOf(0) stay", k.drippingsOf(0), 2);
      k.pass(20);
    }
    CHECKS.refused("11: takeDown(0) without a roast", k, STATE, () -> k.takeDown(0));
    for (int spit : Checks.outside(2)) {
      CHECKS.refused("11: takeDown(" + spit + ")", k, BOUNDS, () -> k.takeDown(spit));
    }
  }

  private static void emptyPan() {
    KitchenSpits k = Kitchens.hot(1, 1);
    k.hang(0, 12);
    k.hang(1, 12);
    CHECKS.due("12: emptyPan(0) of an empty one", k.emptyPan(0), 0);
    k.pass(20);
    CHECKS.due("12: emptyPan(0)", k.emptyPan(0), 20);
    CHECKS.due("12: drippingsOf(0)", k.drippingsOf(0), 0);
    CHECKS.due("12: drippingsOf(1)", k.drippingsOf(1), 20);
    k.takeDown(1);
    CHECKS.due("12: emptyPan(1) without a roast", k.emptyPan(1), 20);
    for (int spit : Checks.outside(2)) {
      CHECKS.refused("12: emptyPan(" + spit + ")", k, BOUNDS, () -> k.emptyPan(spit));
    }
  }

  private static void pass() {
    KitchenSpits k = Kitchens.kitchen(5, 1);
    k.hang(0, 3);
    for (int minutes : Checks.beside(1, 200)) {
      CHECKS.refused("13: pass(" + minutes + ")", k, ARGUMENT, () -> k.pass(minutes));
    }
    CHECKS.due("13: pass(1)", k.pass(1), 0);
    CHECKS.due("13: minute()", k.minute(), 1);
    CHECKS.due("13: pass(200)", k.pass(200), 0);
    CHECKS.due("13: minute()", k.minute(), 201);
    KitchenSpits empty = new KitchenSpits();
    CHECKS.due("13: pass(7) in a kitchen with nothing", empty.pass(7), 0);
    CHECKS.due("13: minute() there", empty.minute(), 7);
  }

  private static void passGivesGlow() {
    KitchenSpits k = Kitchens.hot(1, 2, 3);
    k.hang(0, 12);
    k.hang(1, 12);
    k.hang(2, 12);
    k.pass(1);
    dueBrown("with a glow of 9", k, 0, 9, 3, 0, 3);
    dueBrown("with a glow of 4", k, 1, 4, 1, 0, 1);
    dueBrown("with a glow of 3", k, 2, 3, 1, 0, 1);
    k.turnNow(0);
    k.turnNow(0);
    k.turnNow(0);
    k.pass(1);
    dueBrown("beside side 3", k, 0, 12, 3, 3, 12);
    k.pass(20);
    dueBrown("up to 99", k, 0, 72, 3, 63, 99);
    k.pass(20);
    dueBrown("up to 99 on all three", k, 0, 99, 3, 99, 99);
    KitchenSpits cold = Kitchens.kitchen(40, 1);
    cold.hang(0, 12);
    cold.pass(1);
    dueBrown("with the heat ahead of the minute", cold, 0, 0, 0, 0, 0);
    cold.pass(1);
    dueBrown("with the heat ahead of the minute", cold, 0, 1, 0, 0, 0);
    cold.pass(1);
    dueBrown("with the heat ahead of the minute", cold, 0, 3, 0, 0, 0);
  }

  private static void passGivesLessGlowToTheWet() {
    KitchenSpits k = Kitchens.hot(1);
    k.hang(0, 12);
    k.pass(2);
    k.baste(0);
    dueBrown("ahead of being wet", k, 0, 18, 6, 0, 6);
    k.pass(1);
    CHECKS.due("13: wetFor(0)", k.wetFor(0), 2);
    dueBrown("1 minute wet", k, 0, 26, 8, 0, 8);
    k.pass(2);
    CHECKS.due("13: wetFor(0)", k.wetFor(0), 0);
    dueBrown("3 minutes wet", k, 0, 42, 12, 0, 12);
    k.pass(1);
    CHECKS.due("13: wetFor(0)", k.wetFor(0), 0);
    dueBrown("dry again", k, 0, 51, 15, 0, 15);
    wetWithoutGlow();
    wetWithAGlowOf2();
  }

  private static void wetWithoutGlow() {
    KitchenSpits k = Kitchens.kitchen(1, 1, 1);
    k.addFire();
    k.addSpit(1, 1);
    k.layLogs(1, 1);
    k.layLogs(0, 1);
    k.hang(0, 12);
    k.pass(40);
    CHECKS.due("13: heatOf(0) of a fire gone out", k.heatOf(0), 0);
    CHECKS.due("13: drippings caught", k.drippingsOf(0) >= 2, true);
    k.baste(0);
    int side0 = k.brownOf(0, 0);
    int side1 = k.brownOf(0, 1);
    k.pass(1);
    CHECKS.due("13: brownOf(0, 0), wet without a glow", k.brownOf(0, 0), side0);
    CHECKS.due("13: brownOf(0, 1), wet without a glow", k.brownOf(0, 1), side1);
    CHECKS.due("13: wetFor(0) without a glow", k.wetFor(0), 2);
  }

  private static void wetWithAGlowOf2() {
    KitchenSpits k = Kitchens.hot(1);
    k.hang(0, 12);
    k.pass(2);
    k.moveSpit(0, 3);
    k.baste(0);
    k.pass(1);
    CHECKS.due("13: fatOf(0) of one that got 2", k.fatOf(0), 33);
    CHECKS.due("13: drippingsOf(0)", k.drippingsOf(0), 1);
    KitchenSpits cool = Kitchens.kitchen(2, 1);
    cool.pass(6);
    cool.hang(0, 12);
    // The heats of the next minutes are 6, 5, 4, 3, 2, 1 and 0.
    cool.pass(4);
    CHECKS.due("13: fatOf(0)", cool.fatOf(0), 32);
    cool.baste(0);
    cool.pass(1);
    CHECKS.due("13: fatOf(0) of a wet one with a glow of 2", cool.fatOf(0), 32);
    CHECKS.due("13: drippingsOf(0)", cool.drippingsOf(0), 2);
    dueBrown("of a wet one with a glow of 2", cool, 0, 19, 5, 0, 5);
  }

  private static void passDripsAndFlares() {
    KitchenSpits k = Kitchens.hot(1);
    k.hang(0, 12);
    CHECKS.due("13: pass(19)", k.pass(19), 0);
    CHECKS.due("13: drippingsOf(0)", k.drippingsOf(0), 19);
    CHECKS.due("13: pass(1)", k.pass(1), 0);
    CHECKS.due("13: drippingsOf(0)", k.drippingsOf(0), 20);
    CHECKS.due("13: fatOf(0)", k.fatOf(0), 16);
    CHECKS.due("13: pass(1) with a full pan", k.pass(1), 1);
    CHECKS.due("13: drippingsOf(0)", k.drippingsOf(0), 20);
    CHECKS.due("13: fatOf(0)", k.fatOf(0), 15);
    CHECKS.due("13: pass(20) up to the last fat", k.pass(20), 15);
    CHECKS.due("13: fatOf(0)", k.fatOf(0), 0);
    CHECKS.due("13: pass(5) without fat", k.pass(5), 0);
    k.emptyPan(0);
    k.pass(1);
    CHECKS.due("13: drippingsOf(0) without fat", k.drippingsOf(0), 0);
    glowOf1Drips();
    flaresHeat();
  }

  private static void glowOf1Drips() {
    KitchenSpits k = Kitchens.kitchen(1, 1);
    k.hang(0, 2);
    k.pass(3);
    dueBrown("of one that got 0, 1 and 0", k, 0, 1, 0, 0, 0);
    CHECKS.due("13: fatOf(0) of one that got 1", k.fatOf(0), 6);
    CHECKS.due("13: drippingsOf(0)", k.drippingsOf(0), 0);
  }

  private static void flaresHeat() {
    KitchenSpits k = Kitchens.kitchen(6, 1, 1);
    k.addFire();
    k.pass(6);
    k.hang(0, 12);
    k.hang(1, 12);
    k.pass(20);
    CHECKS.due("13: heatOf(0) at the minute 26", k.heatOf(0), 9);
    CHECKS.due("13: logsOf(0) at the minute 26", k.logsOf(0), 0);
    k.emptyPan(1);
    CHECKS.due("13: pass(1) with a full pan", k.pass(1), 1);
    CHECKS.due("13: heatOf(0), 1 cooler and 1 hotter", k.heatOf(0), 9);
    k.emptyPan(0);
    k.pass(2);
    CHECKS.due("13: heatOf(0) without flares", k.heatOf(0), 7);
    CHECKS.due("13: heatOf(1) of another fire", k.heatOf(1), 0);
    twoFlaresInAMinute();
  }

  private static void twoFlaresInAMinute() {
    KitchenSpits k = Kitchens.kitchen(5, 1, 1);
    k.hang(0, 12);
    k.hang(1, 12);
    // Both got 2 or more from the minute 2 on; the last log burnt in the minute 20.
    CHECKS.due("13: pass(22) up to full pans", k.pass(22), 0);
    CHECKS.due("13: drippingsOf(0)", k.drippingsOf(0), 20);
    CHECKS.due("13: drippingsOf(1)", k.drippingsOf(1), 20);
    CHECKS.due("13: heatOf(0)", k.heatOf(0), 8);
    k.takeDown(0);
    k.takeDown(1);
    CHECKS.due("13: pass(8) without roasts", k.pass(8), 0);
    k.layLogs(0, 5);
    k.pass(2);
    k.hang(0, 12);
    k.hang(1, 12);
    CHECKS.due("13: pass(1) with two full pans", k.pass(1), 2);
    CHECKS.due("13: heatOf(0), 1 hotter and 2 by flares", k.heatOf(0), 5);
    k.emptyPan(1);
    k.moveSpit(0, 3);
    CHECKS.due("13: pass(1) with a glow of 1 and an empty pan", k.pass(1), 0);
    CHECKS.due("13: drippingsOf(1)", k.drippingsOf(1), 1);
    CHECKS.due("13: heatOf(0) without flares", k.heatOf(0), 6);
  }

  private static void passTurns() {
    KitchenSpits k = Kitchens.kitchen(1, 1, 1, 1);
    k.turnEach(0, 1);
    k.turnEach(1, 9);
    for (int spit = 0; spit < 3; spit++) {
      k.hang(spit, 6);
    }
    for (int minute = 1; minute <= 40; minute++) {
      k.pass(1);
      CHECKS.due("13: side turned each minute", k.sideToFire(0), minute % 4);
      CHECKS.due("13: side turned each 9 minutes", k.sideToFire(1), minute / 9 % 4);
      CHECKS.due("13: side not turned", k.sideToFire(2), 0);
    }
    k.takeDown(0);
    k.pass(3);
    CHECKS.due("13: side of one taken down", k.sideToFire(0), 0);
    KitchenSpits glowing = Kitchens.hot(1);
    glowing.hang(0, 6);
    glowing.turnEach(0, 1);
    glowing.pass(2);
    dueBrown("turned behind its glow", glowing, 0, 12, 12, 3, 3);
  }

  private static void passHeats() {
    KitchenSpits k = Kitchens.kitchen(2);
    k.addFire();
    int[] heats = {1, 2, 3, 4, 5, 6, 5, 4, 3, 2, 1, 0, 0, 0};
    int[] logs = {1, 1, 1, 1, 1, 0, 0, 0, 0, 0, 0, 0, 0, 0};
    for (int i = 0; i < heats.length; i++) {
      CHECKS.due("13: pass(1)", k.pass(1), 0);
      CHECKS.due("13: heatOf(0) at " + k.minute(), k.heatOf(0), heats[i]);
      CHECKS.due("13: logsOf(0) at " + k.minute(), k.logsOf(0), logs[i]);
      CHECKS.due("13: heatOf(1) at " + k.minute(), k.heatOf(1), 0);
    }
    k.layLogs(1, 40);
    for (int i = 1; i <= 20; i++) {
      k.pass(1);
      CHECKS.due("13: heatOf(1) at " + k.minute(), k.heatOf(1), Math.min(9, i));
    }
    CHECKS.due("13: logsOf(1) behind the minutes 15, 20, 25 and 30", k.logsOf(1), 36);
    CHECKS.due("13: logsOf(0)", k.logsOf(0), 0);
    k.pass(175);
    CHECKS.due("13: logsOf(1) at 209", k.logsOf(1), 1);
    k.pass(2);
    CHECKS.due("13: logsOf(1) at 211", k.logsOf(1), 0);
    CHECKS.due("13: heatOf(1) at 211", k.heatOf(1), 9);
    k.pass(1);
    CHECKS.due("13: heatOf(1) at 212", k.heatOf(1), 8);
  }

  // ---- promises 14 to 34: what is.

  private static void minuteAndFeast() {
    KitchenSpits k = new KitchenSpits();
    k.pass(200);
    k.pass(17);
    CHECKS.due("14: minute()", k.minute(), 217);
    CHECKS.due("15: feast() that is gone", k.feast(), 120);
    k.setFeast(300);
    CHECKS.due("15: feast()", k.feast(), 300);
    CHECKS.due("14: minute() behind setFeast()", k.minute(), 217);
  }

  private static void firesAndTheirs() {
    KitchenSpits k = Kitchens.kitchen(9);
    k.addFire();
    CHECKS.due("16: fires()", k.fires(), 2);
    k.pass(3);
    CHECKS.due("17: logsOf(0)", k.logsOf(0), 8);
    CHECKS.due("17: logsOf(1)", k.logsOf(1), 0);
    CHECKS.due("18: heatOf(0)", k.heatOf(0), 3);
    CHECKS.due("18: heatOf(1)", k.heatOf(1), 0);
    for (int fire : Checks.outside(2)) {
      CHECKS.refused("17: logsOf(" + fire + ")", k, BOUNDS, () -> k.logsOf(fire));
      CHECKS.refused("18: heatOf(" + fire + ")", k, BOUNDS, () -> k.heatOf(fire));
    }
    k.addFire();
    for (int fire : Checks.outside(3)) {
      CHECKS.refused("17: logsOf(" + fire + ") of 3", k, BOUNDS, () -> k.logsOf(fire));
      CHECKS.refused("18: heatOf(" + fire + ") of 3", k, BOUNDS, () -> k.heatOf(fire));
    }
  }

  private static void spitsAndTheirs() {
    KitchenSpits k = new KitchenSpits();
    k.addFire();
    k.addFire();
    CHECKS.due("19: spits()", k.spits(), 0);
    k.addSpit(1, 3);
    k.addSpit(0, 2);
    k.addSpit(1, 2);
    k.layLogs(1, 5);
    k.turnEach(1, 6);
    k.hang(2, 4);
    k.pass(9);
    CHECKS.due("19: spits()", k.spits(), 3);
    CHECKS.due("20: fireOf(0)", k.fireOf(0), 1);
    CHECKS.due("20: fireOf(1)", k.fireOf(1), 0);
    CHECKS.due("21: feetOf(0)", k.feetOf(0), 3);
    CHECKS.due("21: feetOf(1)", k.feetOf(1), 2);
    CHECKS.due("22: glowAt(0)", k.glowAt(0), 3);
    CHECKS.due("22: glowAt(1) at a cold fire", k.glowAt(1), 0);
    CHECKS.due("22: glowAt(2), 9 / 2", k.glowAt(2), 4);
    CHECKS.due("23: turnedEach(0)", k.turnedEach(0), 0);
    CHECKS.due("23: turnedEach(1)", k.turnedEach(1), 6);
    // The heats were 0 to 8, so the glows 0, 0, 1, 1, 2, 2, 3, 3 and 4.
    CHECKS.due("24: drippingsOf(2)", k.drippingsOf(2), 5);
    CHECKS.due("24: drippingsOf(0)", k.drippingsOf(0), 0);
    CHECKS.due("25: roastOn(2)", k.roastOn(2), 0);
    CHECKS.due("25: roastOn(0)", k.roastOn(0), -1);
    refusedOutsideSpits(k, 3);
    k.addSpit(0, 1);
    k.addSpit(0, 1);
    k.addSpit(0, 1);
    refusedOutsideSpits(k, 6);
  }

  private static void refusedOutsideSpits(KitchenSpits k, int spits) {
    for (int spit : Checks.outside(spits)) {
      CHECKS.refused("20: fireOf(" + spit + ")", k, BOUNDS, () -> k.fireOf(spit));
      CHECKS.refused("21: feetOf(" + spit + ")", k, BOUNDS, () -> k.feetOf(spit));
      CHECKS.refused("22: glowAt(" + spit + ")", k, BOUNDS, () -> k.glowAt(spit));
      CHECKS.refused("23: turnedEach(" + spit + ")", k, BOUNDS, () -> k.turnedEach(spit));
      CHECKS.refused("24: drippingsOf(" + spit + ")", k, BOUNDS, () -> k.drippingsOf(spit));
      CHECKS.refused("25: roastOn(" + spit + ")", k, BOUNDS, () -> k.roastOn(spit));
    }
  }

  private static void roastsAndTheirs() {
    KitchenSpits k = Kitchens.hot(1, 2);
    CHECKS.due("26: roasts()", k.roasts(), 0);
    k.hang(1, 4);
    k.hang(0, 9);
    k.turnNow(1);
    k.pass(2);
    k.baste(1);
    CHECKS.due("26: roasts()", k.roasts(), 2);
    CHECKS.due("27: poundsOf(0)", k.poundsOf(0), 4);
    CHECKS.due("27: poundsOf(1)", k.poundsOf(1), 9);
    CHECKS.due("28: spitOf(0)", k.spitOf(0), 1);
    CHECKS.due("28: spitOf(1)", k.spitOf(1), 0);
    CHECKS.due("29: sideToFire(0)", k.sideToFire(0), 1);
    CHECKS.due("29: sideToFire(1)", k.sideToFire(1), 0);
    dueBrown("30", k, 0, 2, 8, 2, 0);
    dueBrown("30", k, 1, 18, 6, 0, 6);
    CHECKS.due("31: fatOf(0)", k.fatOf(0), 10);
    CHECKS.due("31: fatOf(1)", k.fatOf(1), 25);
    CHECKS.due("32: wetFor(0)", k.wetFor(0), 3);
    CHECKS.due("32: wetFor(1)", k.wetFor(1), 0);
    k.takeDown(1);
    k.hang(1, 1);
    CHECKS.due("26: roasts() counts one taken down", k.roasts(), 3);
    CHECKS.due("28: spitOf(0) taken down", k.spitOf(0), -1);
    CHECKS.due("29: sideToFire(0), the last one", k.sideToFire(0), 1);
    refusedOutsideRoasts(k, 3);
    refusedOutsideRoasts(Kitchens.withAllRoastsHung(1), 16);
    refusedOutsideRoasts(new KitchenSpits(), 0);
  }

  private static void refusedOutsideRoasts(KitchenSpits k, int roasts) {
    for (int roast : Checks.outside(roasts)) {
      CHECKS.refused("27: poundsOf(" + roast + ")", k, BOUNDS, () -> k.poundsOf(roast));
      CHECKS.refused("28: spitOf(" + roast + ")", k, BOUNDS, () -> k.spitOf(roast));
      CHECKS.refused("29: sideToFire(" + roast + ")", k, BOUNDS, () -> k.sideToFire(roast));
      CHECKS.refused("30: brownOf(" + roast + ", 0)", k, BOUNDS, () -> k.brownOf(roast, 0));
      CHECKS.refused("30: brownOf(" + roast + ", 4)", k, BOUNDS, () -> k.brownOf(roast, 4));
      CHECKS.refused("31: fatOf(" + roast + ")", k, BOUNDS, () -> k.fatOf(roast));
      CHECKS.refused("32: wetFor(" + roast + ")", k, BOUNDS, () -> k.wetFor(roast));
      CHECKS.refused("33: isDone(" + roast + ")", k, BOUNDS, () -> k.isDone(roast));
      CHECKS.refused("34: isBurnt(" + roast + ")", k, BOUNDS, () -> k.isBurnt(roast));
      CHECKS.refused("35: minutesUntilDone(" + roast + ")", k, BOUNDS, () -> k.minutesUntilDone(roast));
      CHECKS.refused("36: minutesUntilBurnt(" + roast + ")", k, BOUNDS, () -> k.minutesUntilBurnt(roast));
    }
    if (roasts > 0) {
      for (int side : Checks.outside(4)) {
        CHECKS.refused("30: brownOf(0, " + side + ")", k, BOUNDS, () -> k.brownOf(0, side));
      }
    }
  }

  private static void isDoneAndIsBurnt() {
    KitchenSpits k = Kitchens.hot(3);
    k.turnEach(0, 1);
    k.hang(0, 4);
    // With 12 to 42 brown it is done; the glow of 3 gives 3, 1 and 1 in each minute.
    boolean wasDone = false;
    boolean wasBurnt = false;
    for (int minute = 0; minute < 60; minute++) {
      boolean done = true;
      boolean burnt = false;
      for (int side = 0; side < 4; side++) {
        int brown = k.brownOf(0, side);
        done &= brown >= 12 && brown <= 42;
        burnt |= brown > 42;
      }
      CHECKS.due("33: isDone(0) " + minute + " minutes behind", k.isDone(0), done);
      CHECKS.due("34: isBurnt(0) " + minute + " minutes behind", k.isBurnt(0), burnt);
      wasDone |= done;
      wasBurnt |= burnt;
      k.pass(1);
    }
    CHECKS.due("33: it was done", wasDone, true);
    CHECKS.due("34: it was burnt", wasBurnt, true);
    doneAndBurntAtTheEdges();
    KitchenSpits raw = Kitchens.hot(1);
    raw.hang(0, 1);
    CHECKS.due("33: isDone(0) of a raw one", raw.isDone(0), false);
    CHECKS.due("34: isBurnt(0) of a raw one", raw.isBurnt(0), false);
    raw.pass(20);
    CHECKS.due("33: isDone(0), burnt on one side, raw on another", raw.isDone(0), false);
    CHECKS.due("34: isBurnt(0), burnt on one side", raw.isBurnt(0), true);
  }

  private static void doneAndBurntAtTheEdges() {
    // A pound is done with 3 to 33 on each side; two sides in turn get 9 and 3 from a glow of 9.
    KitchenSpits k = Kitchens.hot(1);
    k.hang(0, 1);
    k.pass(2);
    k.turnNow(0);
    k.turnNow(0);
    CHECKS.due("33: isDone(0) with 18, 6, 0 and 6", k.isDone(0), false);
    k.moveSpit(0, 3);
    k.pass(1);
    dueBrown("at the least edge", k, 0, 18, 7, 3, 7);
    CHECKS.due("33: isDone(0) with 18, 7, 3 and 7", k.isDone(0), true);
    k.turnNow(0);
    k.turnNow(0);
    k.pass(5);
    dueBrown("at the greatest edge", k, 0, 33, 12, 3, 12);
    CHECKS.due("33: isDone(0) with 33 on a side", k.isDone(0), true);
    CHECKS.due("34: isBurnt(0) with 33 on a side", k.isBurnt(0), false);
    k.turnNow(0);
    k.pass(1);
    dueBrown("beside the greatest edge", k, 0, 34, 15, 4, 12);
    CHECKS.due("33: isDone(0) with 34 on a side", k.isDone(0), false);
    CHECKS.due("34: isBurnt(0) with 34 on a side", k.isBurnt(0), true);
  }

  // ---- promises 35 to 41: what would be.

  private static void minutesUntilDone() {
    KitchenSpits k = Kitchens.hot(1);
    k.hang(0, 1);
    CHECKS.due("35: minutesUntilDone(0) not turned", k.minutesUntilDone(0), -1);
    k.turnEach(0, 1);
    CHECKS.due("35: minutesUntilDone(0)", k.minutesUntilDone(0), 2);
    CHECKS.due("35: minutesUntilDone(0) again", k.minutesUntilDone(0), 2);
    CHECKS.due("35: minute() stays", k.minute(), 9);
    dueBrown("stays", k, 0, 0, 0, 0, 0);
    k.pass(1);
    CHECKS.due("35: minutesUntilDone(0) a minute behind", k.minutesUntilDone(0), 1);
    k.pass(1);
    CHECKS.due("35: minutesUntilDone(0) of one that is done", k.minutesUntilDone(0), 0);
    k.takeDown(0);
    CHECKS.due("35: minutesUntilDone(0) of one taken down done", k.minutesUntilDone(0), 0);
    k.hang(0, 1);
    k.takeDown(0);
    CHECKS.due("35: minutesUntilDone(1) of one taken down raw", k.minutesUntilDone(1), -1);
    k.hang(0, 1);
    k.pass(30);
    CHECKS.due("35: minutesUntilDone(2) of one that is burnt", k.minutesUntilDone(2), -1);
  }

  private static void minutesUntilBurnt() {
    KitchenSpits k = Kitchens.hot(1);
    k.hang(0, 1);
    // Behind 4 minutes 36 brown, which is more than 33.
    CHECKS.due("36: minutesUntilBurnt(0)", k.minutesUntilBurnt(0), 4);
    CHECKS.due("36: minutesUntilBurnt(0) again", k.minutesUntilBurnt(0), 4);
    CHECKS.due("36: minute() stays", k.minute(), 9);
    k.pass(3);
    CHECKS.due("36: minutesUntilBurnt(0) 3 minutes behind", k.minutesUntilBurnt(0), 1);
    k.pass(1);
    CHECKS.due("36: minutesUntilBurnt(0) of one that is burnt", k.minutesUntilBurnt(0), 0);
    k.takeDown(0);
    CHECKS.due("36: minutesUntilBurnt(0) of one taken down burnt", k.minutesUntilBurnt(0), 0);
    k.hang(0, 1);
    k.takeDown(0);
    CHECKS.due("36: minutesUntilBurnt(1) of one taken down raw", k.minutesUntilBurnt(1), -1);
    KitchenSpits cold = Kitchens.kitchen(1, 1);
    cold.hang(0, 1);
    CHECKS.due("36: minutesUntilBurnt(0) at a fire that goes out", cold.minutesUntilBurnt(0), -1);
  }

  private static void looksAheadAgreeWithPassing() {
    for (int pounds = 1; pounds <= 12; pounds++) {
      for (int each = 0; each <= 9; each++) {
        looksAheadAgreeWithPassing(pounds, each, 1);
        looksAheadAgreeWithPassing(pounds, each, 2);
      }
    }
  }

  private static void looksAheadAgreeWithPassing(int pounds, int each, int roast) {
    int done = Kitchens.passUntilDone(twoFiresWarm(pounds, each), roast);
    int burnt = Kitchens.passUntilBurnt(twoFiresWarm(pounds, each), roast);
    KitchenSpits k = twoFiresWarm(pounds, each);
    long before = k.digest();
    String which = roast + " of " + pounds + " pounds turned each " + each;
    CHECKS.due("35: minutesUntilDone() " + which, k.minutesUntilDone(roast), done);
    CHECKS.due("36: minutesUntilBurnt() " + which, k.minutesUntilBurnt(roast), burnt);
    CHECKS.due("35: digest() stays", k.digest(), before);
  }

  /** Roast 1 is wet, roast 2 is at another fire, and roast 0 makes the first fire flare soon. */
  private static KitchenSpits twoFiresWarm(int pounds, int each) {
    KitchenSpits k = Kitchens.kitchen(4, 1, 2);
    k.addFire();
    k.layLogs(1, 2);
    k.addSpit(1, 1);
    k.turnEach(1, each);
    k.turnEach(2, each);
    k.hang(0, 12);
    k.pass(7);
    k.hang(1, pounds);
    k.hang(2, pounds);
    k.pass(2);
    k.baste(1);
    return k;
  }

  private static void doneAtFeast() {
    KitchenSpits k = Kitchens.hot(1, 1, 1);
    k.setFeast(11);
    CHECKS.due("37: doneAtFeast() without roasts", k.doneAtFeast(), 0);
    for (int spit = 0; spit < 3; spit++) {
      k.turnEach(spit, 1);
    }
    k.hang(0, 1);
    k.hang(1, 1);
    k.hang(2, 12);
    CHECKS.due("37: doneAtFeast() 2 minutes ahead", k.doneAtFeast(), 2);
    k.setFeast(10);
    CHECKS.due("37: doneAtFeast() 1 minute ahead", k.doneAtFeast(), 0);
    k.setFeast(60);
    CHECKS.due("37: doneAtFeast() when all are burnt", k.doneAtFeast(), 0);
    CHECKS.due("37: minute() stays", k.minute(), 9);
    k.pass(2);
    k.takeDown(0);
    CHECKS.due("37: doneAtFeast() of one taken down", k.doneAtFeast(), 1);
    k.setFeast(11);
    CHECKS.due("37: doneAtFeast() now", k.doneAtFeast(), 2);
    k.setFeast(10);
    CHECKS.due("37: doneAtFeast() a minute gone", k.doneAtFeast(), -1);
    k.setFeast(0);
    CHECKS.due("37: doneAtFeast() long gone", k.doneAtFeast(), -1);
    k.setFeast(211);
    CHECKS.due("37: doneAtFeast() 200 ahead", k.doneAtFeast(), 1);
    k.setFeast(212);
    CHECKS.due("37: doneAtFeast() 201 ahead", k.doneAtFeast(), -1);
    k.setFeast(5000);
    CHECKS.due("37: doneAtFeast() far ahead", k.doneAtFeast(), -1);
    CHECKS.due("37: feast() stays", k.feast(), 5000);
  }

  private static void bestEach() {
    KitchenSpits k = Kitchens.hot(1, 1);
    CHECKS.due("38: bestEach(1) without a roast", k.bestEach(1), -1);
    k.hang(0, 1);
    CHECKS.due("38: bestEach(0)", k.bestEach(0), 1);
    CHECKS.due("38: turnedEach(0) stays", k.turnedEach(0), 0);
    k.pass(20);
    CHECKS.due("38: bestEach(0) of one that is burnt", k.bestEach(0), -1);
    for (int spit : Checks.outside(2)) {
      CHECKS.refused("38: bestEach(" + spit + ")", k, BOUNDS, () -> k.bestEach(spit));
    }
    k.turnEach(1, 1);
    k.hang(1, 1);
    k.pass(2);
    CHECKS.due("38: bestEach(1) of one that is done", k.bestEach(1), 1);
    KitchenSpits cold = Kitchens.kitchen(1, 1);
    cold.hang(0, 12);
    CHECKS.due("38: bestEach(0) at a fire that goes out", cold.bestEach(0), -1);
    bestEachIs9();
  }

  /** Side 0 needs all the glow of 9 minutes, after which the fire is out. */
  private static void bestEachIs9() {
    KitchenSpits k = Kitchens.kitchen(9, 3);
    k.pass(10);
    k.hang(0, 12);
    k.turnNow(0);
    k.pass(6);
    k.turnNow(0);
    k.pass(18);
    k.turnNow(0);
    k.pass(6);
    k.turnNow(0);
    dueBrown("38: of one that lacks side 0", k, 0, 12, 36, 66, 36);
    k.emptyPan(0);
    k.moveSpit(0, 2);
    // The glows are 4, 4, 4, 3, 3, 2, 2, 1 and 1 now.
    CHECKS.due("38: minutesUntilDone(0) not turned", k.minutesUntilDone(0), 9);
    CHECKS.due("38: bestEach(0)", k.bestEach(0), 9);
    k.turnEach(0, 8);
    CHECKS.due("38: minutesUntilDone(0) turned each 8", k.minutesUntilDone(0), -1);
    CHECKS.due("38: bestEach(0)", k.bestEach(0), 9);
    k.pass(1);
    CHECKS.due("38: bestEach(0) with 8 minutes lacking", k.bestEach(0), 8);
  }

  private static void bestEachAgreesWithTrying() {
    int others = 0;
    for (int logs = 1; logs <= 3; logs++) {
      for (int pounds = 1; pounds <= 12; pounds++) {
        for (int ahead = 0; ahead < 6; ahead++) {
          KitchenSpits k = turnedBefore(logs, pounds, ahead);
          long before = k.digest();
          int best = k.bestEach(0);
          others += best > 1 ? 1 : 0;
          CHECKS.due("38: bestEach(0), " + logs + " logs, " + pounds + " pounds, " + ahead + " minutes",
              best, bestEachByTrying(logs, pounds, ahead));
          CHECKS.due("38: digest() stays", k.digest(), before);
          k.pass(1);
          KitchenSpits unasked = turnedBefore(logs, pounds, ahead);
          unasked.pass(1);
          CHECKS.due("38: the count stays", k.digest(), unasked.digest());
        }
      }
    }
    CHECKS.due("38: some had best be turned less often", others > 0, true);
  }

  private static int bestEachByTrying(int logs, int pounds, int ahead) {
    int best = -1;
    int soonest = 201;
    for (int each = 9; each >= 1; each--) {
      KitchenSpits k = turnedBefore(logs, pounds, ahead);
      k.turnEach(0, each);
      int minutes = k.minutesUntilDone(0);
      if (minutes >= 0 && minutes <= soonest) {
        soonest = minutes;
        best = each;
      }
    }
    return best;
  }

  /** Turned each 3 minutes so far, so its count is not 0 most often. */
  private static KitchenSpits turnedBefore(int logs, int pounds, int ahead) {
    KitchenSpits k = Kitchens.kitchen(logs, 1);
    k.pass(6);
    k.turnEach(0, 3);
    k.hang(0, pounds);
    if (ahead > 0) {
      k.pass(ahead);
    }
    return k;
  }

  private static void bestSpit() {
    KitchenSpits none = new KitchenSpits();
    CHECKS.due("39: bestSpit(1) without spits", none.bestSpit(1), -1);
    KitchenSpits k = Kitchens.hot(3, 1, 2, 1);
    CHECKS.due("39: bestSpit(1) with no spit turned", k.bestSpit(1), -1);
    for (int spit = 0; spit < 4; spit++) {
      k.turnEach(spit, 1);
    }
    CHECKS.due("39: bestSpit(1)", k.bestSpit(1), 1);
    CHECKS.due("39: bestSpit(12)", k.bestSpit(12), 1);
    CHECKS.due("39: roasts() stays", k.roasts(), 0);
    CHECKS.due("39: roastOn(1) stays", k.roastOn(1), -1);
    k.hang(1, 2);
    CHECKS.due("39: bestSpit(1) beside a roast", k.bestSpit(1), 3);
    k.hang(3, 2);
    // 3 feet and 2 feet away, each round of four minutes gives a side 5 and 6.
    CHECKS.due("39: bestSpit(12) beside two roasts", k.bestSpit(12), 2);
    CHECKS.due("39: bestSpit(1), done in 4 minutes on both", k.bestSpit(1), 0);
    for (int pounds : Checks.beside(1, 12)) {
      CHECKS.refused("39: bestSpit(" + pounds + ")", k, ARGUMENT, () -> k.bestSpit(pounds));
    }
    k.hang(0, 2);
    k.hang(2, 2);
    CHECKS.due("39: bestSpit(1) when all have roasts", k.bestSpit(1), -1);
    KitchenSpits full = Kitchens.withAllRoastsHung(1);
    full.turnEach(0, 1);
    CHECKS.refused("39: bestSpit(1) behind 16", full, STATE, () -> full.bestSpit(1));
    CHECKS.refused("39: bestSpit(0) behind 16", full, ARGUMENT, () -> full.bestSpit(0));
  }

  private static void bestSpitAgreesWithTrying() {
    for (int pounds = 1; pounds <= 12; pounds++) {
      for (int ahead = 1; ahead <= 12; ahead++) {
        KitchenSpits k = sixSpits(ahead);
        long before = k.digest();
        int best = -1;
        int soonest = 201;
        for (int spit = 5; spit >= 0; spit--) {
          KitchenSpits tried = sixSpits(ahead);
          if (tried.roastOn(spit) < 0) {
            int minutes = tried.minutesUntilDone(tried.hang(spit, pounds));
            if (minutes >= 0 && minutes <= soonest) {
              soonest = minutes;
              best = spit;
            }
          }
        }
        CHECKS.due("39: bestSpit(" + pounds + ") " + ahead + " minutes behind", k.bestSpit(pounds), best);
        CHECKS.due("39: digest() stays", k.digest(), before);
      }
    }
  }

  private static KitchenSpits sixSpits(int ahead) {
    KitchenSpits k = Kitchens.kitchen(3, 3, 2, 1);
    k.addFire();
    k.addSpit(1, 1);
    k.addSpit(1, 1);
    k.addSpit(1, 2);
    for (int spit = 0; spit < 6; spit++) {
      k.turnEach(spit, 1 + spit % 4);
    }
    k.hang(2, 12);
    k.hang(3, 12);
    k.pass(ahead);
    k.takeDown(3);
    k.layLogs(1, 2);
    k.pass(3);
    return k;
  }

  private static void meanBrown() {
    KitchenSpits k = Kitchens.hot(1, 1);
    CHECKS.dueDouble("40: meanBrown() without roasts", k.meanBrown(), 0);
    k.hang(0, 2);
    CHECKS.dueDouble("40: meanBrown() of a raw one", k.meanBrown(), 0);
    k.pass(1);
    CHECKS.dueDouble("40: meanBrown() of 9, 3, 0 and 3", k.meanBrown(), 3.75);
    k.takeDown(0);
    k.hang(1, 2);
    CHECKS.dueDouble("40: meanBrown() of one taken down and a raw one", k.meanBrown(), 1.875);
    k.hang(0, 2);
    k.pass(1);
    CHECKS.dueDouble("40: meanBrown() of three", k.meanBrown(), 45.0 / 12);
    k.moveSpit(0, 3);
    k.pass(1);
    CHECKS.dueDouble("40: meanBrown() of three", k.meanBrown(), 65.0 / 12);
  }

  private static void digest() {
    long empty = 1951;
    for (int x : new int[] {0, 120, 0, 0, 0}) {
      empty = empty * 31 + x;
    }
    CHECKS.due("41: digest() of a new object", new KitchenSpits().digest(), empty);
    KitchenSpits k = sixSpits(7);
    k.baste(2);
    k.hang(4, 1);
    k.turnEach(4, 1);
    dueDigest(k);
    for (int i = 0; i < 4; i++) {
      k.pass(3);
      dueDigest(k);
    }
    KitchenSpits done = Kitchens.hot(1);
    done.turnEach(0, 1);
    done.hang(0, 1);
    done.pass(2);
    CHECKS.due("41: one is done", done.isDone(0), true);
    dueDigest(done);
    done.pass(20);
    CHECKS.due("41: one is burnt", done.isBurnt(0), true);
    dueDigest(done);
    CHECKS.due("41: digest() again", k.digest(), k.digest());
    dueDigest(Kitchens.withAllRoastsHung(1, 2));
  }

  private static void dueDigest(KitchenSpits k) {
    long d = 1951;
    for (int x : new int[] {k.minute(), k.feast(), k.fires(), k.spits(), k.roasts()}) {
      d = d * 31 + x;
    }
    for (int fire = 0; fire < k.fires(); fire++) {
      d = (d * 31 + k.logsOf(fire)) * 31 + k.heatOf(fire);
    }
    for (int spit = 0; spit < k.spits(); spit++) {
      for (int x : new int[] {k.fireOf(spit), k.feetOf(spit), k.glowAt(spit), k.turnedEach(spit),
          k.drippingsOf(spit), k.roastOn(spit)}) {
        d = d * 31 + x;
      }
    }
    for (int roast = 0; roast < k.roasts(); roast++) {
      for (int x : new int[] {k.poundsOf(roast), k.spitOf(roast), k.sideToFire(roast), k.fatOf(roast),
          k.wetFor(roast), k.isDone(roast) ? 1 : 0, k.isBurnt(roast) ? 1 : 0, k.brownOf(roast, 0),
          k.brownOf(roast, 1), k.brownOf(roast, 2), k.brownOf(roast, 3)}) {
        d = d * 31 + x;
      }
    }
    CHECKS.due("41: digest()", k.digest(), d);
  }
}
