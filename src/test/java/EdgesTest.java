import java.math.BigInteger;
import java.util.Arrays;

/**
 * Each sentence of the document that names an edge, in its order: the last value on this side of it
 * and the first one on the other. What is refused there is in RefusalsTest.
 */
public final class EdgesTest {
  private static final Checks CHECKS = new Checks();

  public static void main(String[] args) {
    terms();
    theKitchen();
    roasts();
    minutesGoBy();
    whatIs();
    whatWouldBe();
    CHECKS.end("EdgesTest");
  }

  private static void dueBrown(String when, KitchenSpits k, int roast, int... want) {
    for (int side = 0; side < 4; side++) {
      CHECKS.due(when + ", brownOf(" + roast + ", " + side + ")", k.brownOf(roast, side), want[side]);
    }
  }

  // ---- "Terms".

  private static void terms() {
    glowIsCut();
    logsEndAt0();
    heatEndsAt9And0();
    sidesAreARing();
    brownEndsAt99();
    fatIs3ForEachPound();
    roastsAreNumberedAsHung();
    for (int pounds = 1; pounds <= 12; pounds++) {
      doneFrom3ForEachPound(pounds);
      doneUpTo30More(pounds);
    }
    doneIfAllSidesAre();
    burntIfOneSideIs();
  }

  private static void glowIsCut() {
    int[][] glows = {
      {0, 1, 2, 3, 4, 5, 6, 7, 8, 9}, {0, 0, 1, 1, 2, 2, 3, 3, 4, 4}, {0, 0, 0, 1, 1, 1, 2, 2, 2, 3}};
    KitchenSpits k = Kitchens.kitchen(40, 1, 2, 3);
    for (int heat = 0; heat <= 9; heat++) {
      CHECKS.due("Terms, heatOf(0)", k.heatOf(0), heat);
      for (int spit = 0; spit < 3; spit++) {
        CHECKS.due("Terms, 22: glowAt(" + spit + ") with a heat of " + heat, k.glowAt(spit), glows[spit][heat]);
      }
      k.pass(1);
    }
  }

  private static void logsEndAt0() {
    KitchenSpits k = Kitchens.kitchen(1);
    k.pass(1);
    CHECKS.due("Terms, 17: logsOf(0) behind the last log", k.logsOf(0), 0);
    k.pass(5);
    CHECKS.due("Terms, 17: logsOf(0) behind the minute 5 without logs", k.logsOf(0), 0);
    k.pass(200);
    CHECKS.due("Terms, 17: logsOf(0) long behind", k.logsOf(0), 0);
    CHECKS.due("Terms, 3: layLogs(0, 1) then", k.layLogs(0, 1), 1);
  }

  private static void heatEndsAt9And0() {
    KitchenSpits k = Kitchens.kitchen(2);
    k.layLogs(0, 2);
    k.pass(9);
    CHECKS.due("Terms, 18: heatOf(0) of 9 minutes with logs", k.heatOf(0), 9);
    k.pass(1);
    CHECKS.due("Terms, 18: heatOf(0) of 10 minutes with logs", k.heatOf(0), 9);
    k.pass(6);
    CHECKS.due("Terms, 17: logsOf(0) at the minute 16", k.logsOf(0), 0);
    CHECKS.due("Terms, 18: heatOf(0) of 16 minutes with logs", k.heatOf(0), 9);
    k.pass(8);
    CHECKS.due("Terms, 18: heatOf(0) of 8 minutes without", k.heatOf(0), 1);
    k.pass(1);
    CHECKS.due("Terms, 18: heatOf(0) of 9 minutes without", k.heatOf(0), 0);
    k.pass(1);
    CHECKS.due("Terms, 18: heatOf(0) of 10 minutes without", k.heatOf(0), 0);
    k.layLogs(0, 1);
    k.pass(1);
    CHECKS.due("Terms, 18: heatOf(0) of a minute with logs again", k.heatOf(0), 1);
  }

  private static void sidesAreARing() {
    int[][] browns = {{9, 3, 0, 3}, {3, 9, 3, 0}, {0, 3, 9, 3}, {3, 0, 3, 9}};
    for (int side = 0; side < 4; side++) {
      KitchenSpits k = Kitchens.hot(1);
      k.hang(0, 12);
      for (int i = 0; i < side; i++) {
        k.turnNow(0);
      }
      k.pass(1);
      dueBrown("Terms, 13: side " + side + " to the fire", k, 0, browns[side]);
    }
  }

  private static void brownEndsAt99() {
    KitchenSpits k = Kitchens.browned(12, 97, 0, 0, 0);
    for (int want : new int[] {98, 99, 99}) {
      Kitchens.brownBy1(k);
      dueBrown("Terms, 13: 1 browner", k, 0, want, 0, 0, 0);
    }
    KitchenSpits side = Kitchens.hot(1);
    side.hang(0, 12);
    side.pass(10);
    side.moveSpit(0, 2);
    side.pass(2);
    dueBrown("Terms, 13: 10 glows of 9 and 2 of 4", side, 0, 98, 32, 0, 32);
    side.moveSpit(0, 1);
    side.pass(1);
    dueBrown("Terms, 13: 9 more to the fire", side, 0, 99, 35, 0, 35);
    KitchenSpits beside = Kitchens.hot(1);
    beside.hang(0, 12);
    beside.pass(32);
    beside.moveSpit(0, 3);
    beside.pass(2);
    dueBrown("Terms, 13: 32 glows of 9 and 2 of 3", beside, 0, 99, 98, 0, 98);
    beside.moveSpit(0, 1);
    for (int i = 0; i < 2; i++) {
      beside.pass(1);
      dueBrown("Terms, 13: 3 more beside the fire", beside, 0, 99, 99, 0, 99);
    }
  }

  private static int[] sidesOf(KitchenSpits k) {
    return new int[] {k.brownOf(0, 0), k.brownOf(0, 1), k.brownOf(0, 2), k.brownOf(0, 3)};
  }

  private static void fatIs3ForEachPound() {
    for (int pounds = 1; pounds <= 12; pounds++) {
      KitchenSpits k = Kitchens.kitchen(1, 1);
      k.hang(0, pounds);
      CHECKS.due("Terms, 31: fatOf(0) of " + pounds + " pounds", k.fatOf(0), 3 * pounds);
    }
  }

  private static void roastsAreNumberedAsHung() {
    KitchenSpits k = Kitchens.kitchen(1, 1, 1, 1, 1, 1, 1);
    for (int roast = 0; roast < 16; roast++) {
      int spit = 5 - roast % 6;
      CHECKS.due("Terms, 8: hang() of roast " + roast, k.hang(spit, 1 + roast % 12), roast);
      CHECKS.due("Terms, 26: roasts()", k.roasts(), roast + 1);
      if (roast < 15) {
        CHECKS.due("Terms, 11: takeDown()", k.takeDown(spit), roast);
      }
    }
    for (int roast = 0; roast < 16; roast++) {
      CHECKS.due("Terms, 27: poundsOf(" + roast + ")", k.poundsOf(roast), 1 + roast % 12);
      CHECKS.due("Terms, 28: spitOf(" + roast + ")", k.spitOf(roast), roast < 15 ? -1 : 2);
    }
  }

  private static void doneFrom3ForEachPound(int pounds) {
    int least = 3 * pounds;
    for (int side = 0; side < 4; side++) {
      int[] browns = {least, least, least, least};
      browns[side] = least - 1;
      dueDone(pounds, browns, false, false);
    }
    dueDone(pounds, new int[] {least, least, least, least}, true, false);
  }

  private static void doneUpTo30More(int pounds) {
    int least = 3 * pounds;
    int most = least + 30;
    dueDone(pounds, new int[] {most, most, most, most}, true, false);
    for (int side = 0; side < 4; side++) {
      int[] browns = {least, least, least, least};
      browns[side] = most;
      dueDone(pounds, browns, true, false);
      browns[side] = most + 1;
      dueDone(pounds, browns, false, true);
    }
  }

  private static void doneIfAllSidesAre() {
    dueDone(2, new int[] {0, 0, 0, 0}, false, false);
    dueDone(2, new int[] {36, 36, 36, 0}, false, false);
    dueDone(2, new int[] {5, 5, 5, 5}, false, false);
  }

  private static void burntIfOneSideIs() {
    dueDone(2, new int[] {37, 0, 0, 0}, false, true);
    dueDone(2, new int[] {0, 0, 0, 37}, false, true);
    dueDone(2, new int[] {37, 37, 37, 37}, false, true);
    dueDone(12, new int[] {99, 99, 99, 99}, false, true);
  }

  private static void dueDone(int pounds, int[] browns, boolean done, boolean burnt) {
    KitchenSpits k = Kitchens.browned(pounds, browns);
    String what = pounds + " pounds with " + Arrays.toString(browns);
    dueBrown("30: " + what, k, 0, browns);
    CHECKS.due("Terms, 33: isDone(0), " + what, k.isDone(0), done);
    CHECKS.due("Terms, 34: isBurnt(0), " + what, k.isBurnt(0), burnt);
    CHECKS.due("35: minutesUntilDone(0), 0 if it is now, " + what, k.minutesUntilDone(0), done ? 0 : -1);
    CHECKS.due("36: minutesUntilBurnt(0), 0 if it is now, " + what, k.minutesUntilBurnt(0), burnt ? 0 : -1);
    k.takeDown(0);
    CHECKS.due("11, 33: isDone(0) of one taken down, " + what, k.isDone(0), done);
    CHECKS.due("11, 34: isBurnt(0) of one taken down, " + what, k.isBurnt(0), burnt);
  }

  // ---- promises 1 to 7.

  private static void theKitchen() {
    aNewObject();
    addFireUpTo3();
    layLogsUpTo40();
    addSpitUpTo6();
    moveSpitFrom1To3();
    turnEachFrom0To9();
    turnEachBeginsTheCount();
    setFeastFrom0To5000();
  }

  private static void aNewObject() {
    KitchenSpits k = new KitchenSpits();
    CHECKS.due("1: minute()", k.minute(), 0);
    CHECKS.due("1: feast()", k.feast(), 120);
    CHECKS.due("1: fires()", k.fires(), 0);
    CHECKS.due("1: spits()", k.spits(), 0);
    CHECKS.due("1: roasts()", k.roasts(), 0);
    CHECKS.due("1: doneAtFeast()", k.doneAtFeast(), 0);
    CHECKS.due("1: bestSpit(1)", k.bestSpit(1), -1);
    CHECKS.dueDouble("1: meanBrown()", k.meanBrown(), 0);
  }

  private static void addFireUpTo3() {
    KitchenSpits k = new KitchenSpits();
    for (int fire = 0; fire < 3; fire++) {
      CHECKS.due("2: addFire() with " + fire, k.addFire(), fire);
      CHECKS.due("2, 17: logsOf() of a new fire", k.logsOf(fire), 0);
      CHECKS.due("2, 18: heatOf() of a new fire", k.heatOf(fire), 0);
      k.layLogs(fire, 40);
      k.pass(3);
    }
    CHECKS.due("2: fires()", k.fires(), 3);
    CHECKS.due("2: heatOf(0)", k.heatOf(0), 9);
    CHECKS.due("2: heatOf(2)", k.heatOf(2), 3);
  }

  private static void layLogsUpTo40() {
    dueLaid(0, 1, 1);
    dueLaid(0, 39, 39);
    dueLaid(0, 40, 40);
    dueLaid(1, 38, 39);
    dueLaid(1, 39, 40);
    dueLaid(1, 40, 40);
    dueLaid(39, 1, 40);
    dueLaid(39, 2, 40);
    dueLaid(40, 1, 40);
    dueLaid(40, 40, 40);
  }

  private static void dueLaid(int before, int logs, int want) {
    for (int fire = 0; fire < 3; fire++) {
      KitchenSpits k = new KitchenSpits();
      for (int i = 0; i < 3; i++) {
        k.addFire();
      }
      if (before > 0) {
        k.layLogs(fire, before);
      }
      String what = "3: layLogs(" + fire + ", " + logs + ") on " + before;
      CHECKS.due(what, k.layLogs(fire, logs), want);
      for (int i = 0; i < 3; i++) {
        CHECKS.due(what + ", logsOf(" + i + ")", k.logsOf(i), i == fire ? want : 0);
      }
      CHECKS.due(what + ", heatOf(" + fire + ")", k.heatOf(fire), 0);
    }
  }

  private static void addSpitUpTo6() {
    KitchenSpits k = new KitchenSpits();
    for (int i = 0; i < 3; i++) {
      k.addFire();
    }
    for (int spit = 0; spit < 6; spit++) {
      int fire = 2 - spit % 3;
      int feet = spit < 3 ? 3 : 1;
      CHECKS.due("4: addSpit() with " + spit, k.addSpit(fire, feet), spit);
      CHECKS.due("4: spits()", k.spits(), spit + 1);
      CHECKS.due("4, 20: fireOf(" + spit + ")", k.fireOf(spit), fire);
      CHECKS.due("4, 21: feetOf(" + spit + ")", k.feetOf(spit), feet);
      CHECKS.due("4, 23: turnedEach(" + spit + ") of a new spit", k.turnedEach(spit), 0);
      CHECKS.due("4, 24: drippingsOf(" + spit + ") of a new spit", k.drippingsOf(spit), 0);
      CHECKS.due("4, 25: roastOn(" + spit + ") of a new spit", k.roastOn(spit), -1);
    }
    KitchenSpits atOneFire = Kitchens.kitchen(1, 1, 1, 2, 2, 3, 3);
    CHECKS.due("4: spits() with all six at a fire", atOneFire.spits(), 6);
    CHECKS.due("4: fireOf(5) with all six at a fire", atOneFire.fireOf(5), 0);
  }

  private static void moveSpitFrom1To3() {
    KitchenSpits k = Kitchens.hot(2, 2, 2, 2, 2, 2);
    for (int spit : new int[] {0, 5}) {
      CHECKS.due("5: moveSpit(" + spit + ", 1)", k.moveSpit(spit, 1), 2);
      CHECKS.due("5: feetOf(" + spit + ")", k.feetOf(spit), 1);
      CHECKS.due("5: glowAt(" + spit + ")", k.glowAt(spit), 9);
      CHECKS.due("5: moveSpit(" + spit + ", 3)", k.moveSpit(spit, 3), 1);
      CHECKS.due("5: glowAt(" + spit + ")", k.glowAt(spit), 3);
      CHECKS.due("5: moveSpit(" + spit + ", 3) to where it is", k.moveSpit(spit, 3), 3);
      CHECKS.due("5: feetOf(" + spit + ")", k.feetOf(spit), 3);
    }
    CHECKS.due("5: feetOf(1) beside", k.feetOf(1), 2);
    CHECKS.due("5: feetOf(4) beside", k.feetOf(4), 2);
    movingLeavesTheCount();
  }

  private static void movingLeavesTheCount() {
    KitchenSpits k = Kitchens.hot(1);
    k.turnEach(0, 3);
    k.hang(0, 5);
    k.pass(2);
    k.moveSpit(0, 2);
    CHECKS.due("5: turnedEach(0)", k.turnedEach(0), 3);
    CHECKS.due("5: drippingsOf(0)", k.drippingsOf(0), 2);
    k.pass(1);
    CHECKS.due("5: sideToFire(0), as moving leaves the count", k.sideToFire(0), 1);
  }

  private static void turnEachFrom0To9() {
    KitchenSpits k = Kitchens.kitchen(1, 1, 1, 1, 1, 1, 1);
    int before = 0;
    for (int minutes : new int[] {0, 1, 9, 0, 9, 9}) {
      CHECKS.due("6: turnEach(5, " + minutes + ")", k.turnEach(5, minutes), before);
      CHECKS.due("6: turnedEach(5)", k.turnedEach(5), minutes);
      before = minutes;
    }
    CHECKS.due("6: turnedEach(4) beside", k.turnedEach(4), 0);
    for (int minutes = 1; minutes <= 9; minutes++) {
      turnsFirstAt(minutes);
    }
    KitchenSpits not = Kitchens.kitchen(1, 1);
    not.turnEach(0, 0);
    not.hang(0, 5);
    not.pass(200);
    CHECKS.due("6: sideToFire(0) turned each 0", not.sideToFire(0), 0);
  }

  private static void turnsFirstAt(int minutes) {
    KitchenSpits k = Kitchens.kitchen(1, 1);
    k.hang(0, 5);
    k.pass(1);
    k.turnEach(0, minutes);
    for (int passed = 1; passed <= 4 * minutes; passed++) {
      k.pass(1);
      CHECKS.due("6: sideToFire(0) turned each " + minutes + ", " + passed + " minutes behind",
          k.sideToFire(0), passed / minutes % 4);
    }
  }

  private static void turnEachBeginsTheCount() {
    KitchenSpits k = Kitchens.kitchen(1, 1);
    k.turnEach(0, 3);
    k.hang(0, 5);
    k.pass(2);
    k.turnEach(0, 3);
    k.pass(1);
    CHECKS.due("6: sideToFire(0), the count was 0 with the same number too", k.sideToFire(0), 0);
    k.pass(1);
    CHECKS.due("6: sideToFire(0), 2 minutes behind", k.sideToFire(0), 0);
    k.pass(1);
    CHECKS.due("6: sideToFire(0), 3 minutes behind", k.sideToFire(0), 1);
    k.pass(1);
    k.turnEach(0, 0);
    k.pass(1);
    k.turnEach(0, 2);
    k.pass(1);
    CHECKS.due("6: sideToFire(0), a minute behind 0 and 2", k.sideToFire(0), 1);
    k.pass(1);
    CHECKS.due("6: sideToFire(0), 2 minutes behind 0 and 2", k.sideToFire(0), 2);
  }

  private static void setFeastFrom0To5000() {
    KitchenSpits k = new KitchenSpits();
    int before = 120;
    for (int minute : new int[] {0, 1, 4999, 5000, 5000, 0}) {
      CHECKS.due("7: setFeast(" + minute + ")", k.setFeast(minute), before);
      CHECKS.due("7, 15: feast()", k.feast(), minute);
      before = minute;
    }
    CHECKS.due("7: minute()", k.minute(), 0);
    k.pass(1);
    CHECKS.due("7: setFeast(0) when it is gone", k.setFeast(0), 0);
  }

  // ---- promises 8 to 12.

  private static void roasts() {
    hangFrom1To12();
    hangThe16th();
    hangAnewBeginsAnew();
    turnNowBehind3();
    basteFrom2();
    basteFor3FromNowOn();
    takeDownLeavesIt();
    emptyPanOf0And20();
  }

  private static void hangFrom1To12() {
    KitchenSpits k = Kitchens.hot(1, 1, 1, 1, 1, 1);
    CHECKS.due("8: hang(0, 1)", k.hang(0, 1), 0);
    CHECKS.due("8: hang(5, 12)", k.hang(5, 12), 1);
    CHECKS.due("8, 27: poundsOf(0)", k.poundsOf(0), 1);
    CHECKS.due("8, 27: poundsOf(1)", k.poundsOf(1), 12);
    for (int roast = 0; roast < 2; roast++) {
      CHECKS.due("8, 29: sideToFire() of a new roast", k.sideToFire(roast), 0);
      CHECKS.due("8, 32: wetFor() of a new roast", k.wetFor(roast), 0);
      dueBrown("8: a new roast", k, roast, 0, 0, 0, 0);
    }
    CHECKS.due("8: minute()", k.minute(), 9);
  }

  private static void hangThe16th() {
    KitchenSpits k = Kitchens.kitchen(1, 1, 1);
    for (int roast = 0; roast < 15; roast++) {
      k.hang(0, 1);
      k.takeDown(0);
    }
    CHECKS.due("8: hang(1, 12) behind 15", k.hang(1, 12), 15);
    CHECKS.due("8, 25: roastOn(1)", k.roastOn(1), 15);
    CHECKS.due("8, 28: spitOf(15)", k.spitOf(15), 1);
    CHECKS.due("8, 25: roastOn(0)", k.roastOn(0), -1);
    CHECKS.due("9: turnNow(1) of the 16th", k.turnNow(1), 1);
    k.layLogs(0, 40);
    k.pass(9);
    CHECKS.due("13, 31: fatOf(15)", k.fatOf(15) < 36, true);
    k.baste(1);
    CHECKS.due("10, 32: wetFor(15)", k.wetFor(15), 3);
    CHECKS.due("11: takeDown(1) of the 16th", k.takeDown(1), 15);
  }

  /** Nothing of the roast that hung there ahead stays with the new one; the pan and the turning do. */
  private static void hangAnewBeginsAnew() {
    KitchenSpits k = Kitchens.hot(1);
    k.turnEach(0, 3);
    k.hang(0, 12);
    k.pass(5);
    k.baste(0);
    k.takeDown(0);
    CHECKS.due("8: hang(0, 2)", k.hang(0, 2), 1);
    CHECKS.due("8: sideToFire(1)", k.sideToFire(1), 0);
    CHECKS.due("8: wetFor(1)", k.wetFor(1), 0);
    CHECKS.due("8: fatOf(1)", k.fatOf(1), 6);
    dueBrown("8: hung anew", k, 1, 0, 0, 0, 0);
    CHECKS.due("8: drippingsOf(0)", k.drippingsOf(0), 3);
    CHECKS.due("8: turnedEach(0)", k.turnedEach(0), 3);
    k.pass(2);
    CHECKS.due("8: sideToFire(1), as the count is 0 then", k.sideToFire(1), 0);
    k.pass(1);
    CHECKS.due("8: sideToFire(1), 3 minutes behind", k.sideToFire(1), 1);
  }

  private static void turnNowBehind3() {
    KitchenSpits k = Kitchens.kitchen(1, 1, 1, 1, 1, 1, 1);
    k.hang(5, 1);
    for (int side : new int[] {1, 2, 3, 0, 1}) {
      CHECKS.due("9: turnNow(5)", k.turnNow(5), side);
      CHECKS.due("9, 29: sideToFire(0)", k.sideToFire(0), side);
    }
    KitchenSpits turned = Kitchens.kitchen(1, 1);
    turned.turnEach(0, 2);
    turned.hang(0, 1);
    turned.pass(1);
    turned.turnNow(0);
    turned.pass(1);
    CHECKS.due("9: sideToFire(0), as the count stays", turned.sideToFire(0), 2);
    turned.turnNow(0);
    CHECKS.due("9: sideToFire(0) ahead of the ring's end", turned.sideToFire(0), 3);
    turned.pass(2);
    CHECKS.due("13: sideToFire(0) turned behind 3", turned.sideToFire(0), 0);
  }

  private static void basteFrom2() {
    KitchenSpits k = Kitchens.hot(1);
    k.hang(0, 12);
    k.pass(2);
    CHECKS.due("10: baste(0) with 2", k.baste(0), 0);
    CHECKS.due("10, 24: drippingsOf(0)", k.drippingsOf(0), 0);
    KitchenSpits three = Kitchens.hot(1);
    three.hang(0, 12);
    three.pass(3);
    CHECKS.due("10: baste(0) with 3", three.baste(0), 1);
    KitchenSpits twenty = Kitchens.fullPans();
    twenty.hang(5, 1);
    for (int left = 18; left >= 0; left -= 2) {
      CHECKS.due("10: baste(5)", twenty.baste(5), left);
      CHECKS.due("10, 24: drippingsOf(5)", twenty.drippingsOf(5), left);
      CHECKS.due("10, 32: wetFor(6)", twenty.wetFor(6), 3);
      CHECKS.due("10, 31: fatOf(6)", twenty.fatOf(6), 3);
    }
    CHECKS.due("10, 24: drippingsOf(4) beside", twenty.drippingsOf(4), 20);
  }

  private static void basteFor3FromNowOn() {
    for (int behind = 0; behind <= 4; behind++) {
      KitchenSpits k = Kitchens.fullPans();
      k.hang(0, 12);
      k.baste(0);
      if (behind > 0) {
        k.pass(behind);
      }
      CHECKS.due("10, 32: wetFor(6) " + behind + " minutes behind", k.wetFor(6), Math.max(0, 3 - behind));
      k.baste(0);
      CHECKS.due("10, 32: wetFor(6) basted again " + behind + " minutes behind", k.wetFor(6), 3);
    }
  }

  private static void takeDownLeavesIt() {
    KitchenSpits k = Kitchens.hot(1);
    k.turnEach(0, 1);
    k.hang(0, 12);
    k.pass(6);
    k.baste(0);
    int[] before = sidesOf(k);
    CHECKS.due("11: takeDown(0)", k.takeDown(0), 0);
    k.pass(200);
    dueBrown("11: as it was", k, 0, before);
    CHECKS.due("11, 31: fatOf(0)", k.fatOf(0), 30);
    CHECKS.due("11, 32: wetFor(0)", k.wetFor(0), 3);
    CHECKS.due("11, 29: sideToFire(0), the last one", k.sideToFire(0), 2);
    CHECKS.due("11, 24: drippingsOf(0)", k.drippingsOf(0), 4);
    CHECKS.due("11, 23: turnedEach(0)", k.turnedEach(0), 1);
    CHECKS.due("11, 28: spitOf(0)", k.spitOf(0), -1);
    CHECKS.due("11, 25: roastOn(0)", k.roastOn(0), -1);
    CHECKS.due("11, 26: roasts()", k.roasts(), 1);
    CHECKS.due("8: hang(0, 1) on the spit that is free", k.hang(0, 1), 1);
  }

  private static void emptyPanOf0And20() {
    KitchenSpits k = Kitchens.fullPans();
    CHECKS.due("12: emptyPan(5) with 20, without a roast", k.emptyPan(5), 20);
    CHECKS.due("12: emptyPan(5) with 0", k.emptyPan(5), 0);
    CHECKS.due("12, 24: drippingsOf(5)", k.drippingsOf(5), 0);
    CHECKS.due("12, 24: drippingsOf(4) beside", k.drippingsOf(4), 20);
    k.hang(5, 1);
    k.pass(1);
    CHECKS.due("12: emptyPan(5) with 1, below a roast", k.emptyPan(5), 1);
    CHECKS.due("12, 25: roastOn(5)", k.roastOn(5), 6);
  }

  // ---- promise 13: the five steps.

  private static void minutesGoBy() {
    passFrom1To200();
    step1AThirdIsCut();
    step1WetGets1LessAtLeast0();
    step1OnlyOnASpit();
    step2From2On();
    step2WhileItHasFat();
    step2UpTo20Drippings();
    step2FlaresItsFireAlone();
    step3CountsWithARoast();
    step4BurnsALogEach5Minutes();
    step4AddsAllAndHoldsThen();
    passCountsAllFlares();
  }

  private static void passFrom1To200() {
    KitchenSpits k = Kitchens.kitchen(40);
    CHECKS.due("13: pass(1)", k.pass(1), 0);
    CHECKS.due("13, 14: minute()", k.minute(), 1);
    CHECKS.due("13: pass(200)", k.pass(200), 0);
    CHECKS.due("13, 14: minute()", k.minute(), 201);
    KitchenSpits empty = new KitchenSpits();
    for (int i = 1; i <= 26; i++) {
      CHECKS.due("13: pass(200) in the empty kitchen", empty.pass(200), 0);
      CHECKS.due("13, 14: minute()", empty.minute(), 200 * i);
    }
    CHECKS.due("15: feast()", empty.feast(), 120);
    CHECKS.due("41: digest() behind 5200 minutes", empty.digest(), digestOf(5200, 120, 0, 0, 0));
  }

  private static void step1AThirdIsCut() {
    int[][] sideAndBeside = {{0, 0}, {1, 0}, {2, 0}, {3, 1}, {4, 1}, {5, 1}, {6, 2}, {7, 2}, {8, 2}, {9, 3}};
    for (int heat = 0; heat <= 9; heat++) {
      KitchenSpits k = Kitchens.kitchen(40, 1);
      if (heat > 0) {
        k.pass(heat);
      }
      k.hang(0, 12);
      k.pass(1);
      int side = sideAndBeside[heat][0];
      int beside = sideAndBeside[heat][1];
      dueBrown("13, step 1: with a glow of " + heat, k, 0, side, beside, 0, beside);
    }
  }

  private static void step1WetGets1LessAtLeast0() {
    // With a full pan the roast flares, so 2 drippings go; the fire cools by 1 in each minute.
    for (int heat = 9; heat >= 0; heat--) {
      KitchenSpits k = Kitchens.fullPans();
      if (heat < 9) {
        k.pass(9 - heat);
      }
      k.hang(0, 12);
      CHECKS.due("13: glowAt(0)", k.glowAt(0), heat);
      k.baste(0);
      k.pass(1);
      int got = Math.max(0, heat - 1);
      dueBrown("13, step 1: wet with a glow of " + heat, k, 6, got, got / 3, 0, got / 3);
      CHECKS.due("13, step 1: wetFor(6) with a glow of " + heat, k.wetFor(6), 2);
      CHECKS.due("13, step 2: fatOf(6), wet with a glow of " + heat, k.fatOf(6), got >= 2 ? 35 : 36);
      k.pass(3);
      CHECKS.due("13, step 1: wetFor(6) 4 minutes behind", k.wetFor(6), 0);
    }
    wetFor3MinutesAndNoMore();
  }

  private static void wetFor3MinutesAndNoMore() {
    KitchenSpits k = Kitchens.hot(1);
    k.hang(0, 12);
    k.pass(2);
    k.baste(0);
    int side = 18;
    for (int more : new int[] {8, 8, 8, 9, 9}) {
      side += more;
      k.pass(1);
      CHECKS.due("13, step 1: brownOf(0, 0), 3 minutes wet", k.brownOf(0, 0), side);
    }
  }

  private static void step1OnlyOnASpit() {
    KitchenSpits k = Kitchens.hot(1, 1);
    k.hang(0, 1);
    k.hang(1, 1);
    k.takeDown(0);
    k.pass(1);
    dueBrown("13, step 1: taken down", k, 0, 0, 0, 0, 0);
    dueBrown("13, step 1: on a spit", k, 1, 9, 3, 0, 3);
    CHECKS.due("13, step 2: fatOf(0) of one taken down", k.fatOf(0), 3);
    CHECKS.due("13, step 2: fatOf(1) of one on a spit", k.fatOf(1), 2);
  }

  private static void step2From2On() {
    for (int heat = 0; heat <= 9; heat++) {
      KitchenSpits k = Kitchens.kitchen(40, 1);
      if (heat > 0) {
        k.pass(heat);
      }
      k.hang(0, 1);
      k.pass(1);
      CHECKS.due("13, step 2: fatOf(0) that got " + heat, k.fatOf(0), heat >= 2 ? 2 : 3);
      CHECKS.due("13, step 2: drippingsOf(0) that got " + heat, k.drippingsOf(0), heat >= 2 ? 1 : 0);
    }
  }

  private static void step2WhileItHasFat() {
    KitchenSpits k = Kitchens.hot(1);
    k.hang(0, 1);
    int[] fats = {2, 1, 0, 0, 0};
    for (int i = 0; i < fats.length; i++) {
      k.pass(1);
      CHECKS.due("13, step 2: fatOf(0)", k.fatOf(0), fats[i]);
      CHECKS.due("13, step 2: drippingsOf(0)", k.drippingsOf(0), 3 - fats[i]);
    }
    KitchenSpits flaring = Kitchens.fullPans();
    flaring.hang(0, 1);
    int[] flares = {1, 1, 1, 0, 0};
    int[] heats = {9, 9, 9, 8, 7};
    for (int i = 0; i < flares.length; i++) {
      CHECKS.due("13, step 2: pass(1) with a fat of " + flaring.fatOf(6), flaring.pass(1), flares[i]);
      CHECKS.due("13, step 4: heatOf(0)", flaring.heatOf(0), heats[i]);
    }
  }

  private static void step2UpTo20Drippings() {
    KitchenSpits k = Kitchens.hot(1);
    k.hang(0, 12);
    for (int minute = 1; minute <= 36; minute++) {
      CHECKS.due("13, step 2: pass(1), minute " + minute, k.pass(1), minute <= 20 ? 0 : 1);
      CHECKS.due("13, step 2: drippingsOf(0), minute " + minute, k.drippingsOf(0), Math.min(20, minute));
      CHECKS.due("13, step 2: fatOf(0), minute " + minute, k.fatOf(0), 36 - minute);
    }
    CHECKS.due("13, step 2: pass(1) without fat", k.pass(1), 0);
    CHECKS.due("13, step 2: drippingsOf(0) without fat", k.drippingsOf(0), 20);
  }

  private static void step2FlaresItsFireAlone() {
    KitchenSpits k = new KitchenSpits();
    for (int fire = 0; fire < 3; fire++) {
      k.addFire();
      k.layLogs(fire, 6);
      k.addSpit(fire, 1);
    }
    k.pass(6);
    k.hang(1, 12);
    k.pass(20);
    CHECKS.due("13, step 2: drippingsOf(1)", k.drippingsOf(1), 20);
    CHECKS.due("13, step 2: pass(1)", k.pass(1), 1);
    CHECKS.due("13, step 2: heatOf(0)", k.heatOf(0), 8);
    CHECKS.due("13, step 2: heatOf(1)", k.heatOf(1), 9);
    CHECKS.due("13, step 2: heatOf(2)", k.heatOf(2), 8);
  }

  private static void step3CountsWithARoast() {
    KitchenSpits k = Kitchens.kitchen(1, 1, 1);
    k.turnEach(0, 3);
    k.turnEach(1, 3);
    k.hang(0, 1);
    k.pass(1);
    k.hang(1, 1);
    k.pass(2);
    CHECKS.due("13, step 3: sideToFire(0) of 3 minutes", k.sideToFire(0), 1);
    CHECKS.due("13, step 3: sideToFire(1) of 2 minutes", k.sideToFire(1), 0);
    k.pass(1);
    CHECKS.due("13, step 3: sideToFire(0) of 4 minutes", k.sideToFire(0), 1);
    CHECKS.due("13, step 3: sideToFire(1) of 3 minutes", k.sideToFire(1), 1);
    KitchenSpits glowing = Kitchens.hot(1);
    glowing.turnEach(0, 1);
    glowing.hang(0, 12);
    glowing.pass(1);
    dueBrown("13, step 3 is behind step 1", glowing, 0, 9, 3, 0, 3);
    CHECKS.due("13, step 3: sideToFire(0)", glowing.sideToFire(0), 1);
  }

  private static void step4BurnsALogEach5Minutes() {
    KitchenSpits k = Kitchens.kitchen(4);
    int[] logs = {3, 3, 3, 3, 3, 2, 2, 2, 2, 2, 1, 1, 1, 1, 1, 0, 0};
    int[] heats = {1, 2, 3, 4, 5, 6, 7, 8, 9, 9, 9, 9, 9, 9, 9, 9, 8};
    for (int minute = 0; minute < logs.length; minute++) {
      k.pass(1);
      CHECKS.due("13, step 4: logsOf(0) behind the minute " + minute, k.logsOf(0), logs[minute]);
      CHECKS.due("13, step 4: heatOf(0) behind the minute " + minute, k.heatOf(0), heats[minute]);
    }
    KitchenSpits last = new KitchenSpits();
    last.addFire();
    last.pass(5);
    last.layLogs(0, 1);
    last.pass(1);
    CHECKS.due("13, step 4: logsOf(0), its only log burnt", last.logsOf(0), 0);
    CHECKS.due("13, step 4: heatOf(0), 1 hotter by its last log", last.heatOf(0), 1);
  }

  /** Each with a heat and without logs, or with; so many spits flare. */
  private static void step4AddsAllAndHoldsThen() {
    dueHeat(9, 0, 0, 8);
    dueHeat(9, 0, 1, 9);
    dueHeat(9, 0, 2, 9);
    dueHeat(9, 0, 6, 9);
    dueHeat(9, 1, 0, 9);
    dueHeat(9, 1, 6, 9);
    dueHeat(8, 0, 1, 8);
    dueHeat(8, 0, 2, 9);
    dueHeat(8, 0, 3, 9);
    dueHeat(8, 1, 0, 9);
    dueHeat(8, 1, 1, 9);
    dueHeat(7, 1, 1, 9);
    dueHeat(6, 1, 1, 8);
    dueHeat(2, 0, 0, 1);
    dueHeat(2, 0, 1, 2);
    dueHeat(2, 0, 6, 7);
    dueHeat(2, 1, 6, 9);
    dueHeat(1, 0, 6, 0);
    dueHeat(0, 0, 6, 0);
    dueHeat(0, 1, 6, 1);
  }

  /** Below a glow of 2 none of the spits flares. */
  private static void dueHeat(int heat, int logs, int flaring, int want) {
    KitchenSpits k = Kitchens.fullPans();
    if (heat < 9) {
      k.pass(9 - heat);
    }
    if (logs > 0) {
      k.layLogs(0, logs);
    }
    for (int spit = 0; spit < flaring; spit++) {
      k.hang(spit, 1);
    }
    String what = "heat " + heat + ", logs " + logs + ", roasts " + flaring;
    CHECKS.due("13, step 4: heatOf(0), " + what, k.heatOf(0), heat);
    CHECKS.due("13: pass(1), " + what, k.pass(1), heat < 2 ? 0 : flaring);
    CHECKS.due("13, step 4: heatOf(0) behind it, " + what, k.heatOf(0), want);
    k.pass(5);
    int later = k.heatOf(0);
    boolean burns = k.logsOf(0) > 0;
    k.pass(1);
    CHECKS.due("13, step 4: heatOf(0) without flares of minutes before, " + what,
        k.heatOf(0), burns ? Math.min(9, later + 1) : Math.max(0, later - 1));
  }

  private static void passCountsAllFlares() {
    KitchenSpits k = Kitchens.fullPans();
    for (int spit = 0; spit < 6; spit++) {
      k.hang(spit, 12);
    }
    CHECKS.due("13: pass(1) with six full pans", k.pass(1), 6);
    CHECKS.due("13: pass(2) with six full pans", k.pass(2), 12);
    CHECKS.due("13: pass(200) with six full pans", k.pass(200), 6 * 33);
    CHECKS.due("13: pass(200) without fat", k.pass(200), 0);
  }

  // ---- promises 14 to 34.

  private static void whatIs() {
    firstAndLastOfThree();
    firstAndLastOfSix();
    noneIsMinus1();
    brownOfSides0To3();
  }

  private static void firstAndLastOfThree() {
    KitchenSpits k = new KitchenSpits();
    for (int fire = 0; fire < 3; fire++) {
      k.addFire();
      CHECKS.due("16: fires()", k.fires(), fire + 1);
      k.layLogs(fire, 10 + fire);
      k.pass(1);
    }
    int[] logs = {9, 11, 12};
    for (int fire = 0; fire < 3; fire++) {
      CHECKS.due("17: logsOf(" + fire + ")", k.logsOf(fire), logs[fire]);
      CHECKS.due("18: heatOf(" + fire + ")", k.heatOf(fire), 3 - fire);
    }
  }

  private static void firstAndLastOfSix() {
    KitchenSpits k = Kitchens.hot(1, 2, 3, 3, 2, 1);
    k.addFire();
    for (int spit : new int[] {0, 5}) {
      k.turnEach(spit, 4 + spit);
      k.hang(spit, 2 + spit);
      k.pass(1);
    }
    CHECKS.due("19: spits()", k.spits(), 6);
    CHECKS.due("20: fireOf(5)", k.fireOf(5), 0);
    CHECKS.due("21: feetOf(0)", k.feetOf(0), 1);
    CHECKS.due("21: feetOf(3)", k.feetOf(3), 3);
    CHECKS.due("22: glowAt(0)", k.glowAt(0), 9);
    CHECKS.due("22: glowAt(4)", k.glowAt(4), 4);
    CHECKS.due("22: glowAt(2)", k.glowAt(2), 3);
    CHECKS.due("23: turnedEach(0)", k.turnedEach(0), 4);
    CHECKS.due("23: turnedEach(5)", k.turnedEach(5), 9);
    CHECKS.due("24: drippingsOf(0)", k.drippingsOf(0), 2);
    CHECKS.due("24: drippingsOf(5)", k.drippingsOf(5), 1);
    CHECKS.due("25: roastOn(0)", k.roastOn(0), 0);
    CHECKS.due("25: roastOn(5)", k.roastOn(5), 1);
  }

  private static void noneIsMinus1() {
    KitchenSpits k = Kitchens.kitchen(1, 1);
    CHECKS.due("25: roastOn(0) with none yet", k.roastOn(0), -1);
    k.hang(0, 1);
    CHECKS.due("25: roastOn(0), the roast 0", k.roastOn(0), 0);
    CHECKS.due("28: spitOf(0), the spit 0", k.spitOf(0), 0);
    k.takeDown(0);
    CHECKS.due("25: roastOn(0) with none again", k.roastOn(0), -1);
    CHECKS.due("28: spitOf(0) taken down", k.spitOf(0), -1);
    k.hang(0, 1);
    CHECKS.due("28: spitOf(0) with another on its spit", k.spitOf(0), -1);
    CHECKS.due("28: spitOf(1)", k.spitOf(1), 0);
  }

  private static void brownOfSides0To3() {
    KitchenSpits k = Kitchens.browned(1, 0, 1, 2, 3);
    for (int side = 0; side < 4; side++) {
      CHECKS.due("30: brownOf(0, " + side + ")", k.brownOf(0, side), side);
    }
  }

  // ---- promises 35 to 41.

  private static void whatWouldBe() {
    untilDoneByAMinute();
    untilDoneForTheFirstTime();
    untilBurntByAMinute();
    untilMinutesFarAhead();
    aheadTheLastLogBurnsInItsMinute();
    aheadEachSpitIsAtItsFire();
    doneAtFeastFrom0To200Ahead();
    doneAtFeastCountsAll16();
    bestEachFrom1To9();
    bestEachIsMinus1();
    bestSpitIsTheSmallest();
    bestSpitIsMinus1();
    bestSpitOfTheLastRoast();
    meanBrownFrom0To99();
    digestWrapsAround();
    digestOfAnswers();
  }

  private static void untilDoneByAMinute() {
    for (int pounds : new int[] {1, 12}) {
      int least = 3 * pounds;
      KitchenSpits k = Kitchens.browned(pounds, least - 1, least, least, least);
      CHECKS.due("35: minutesUntilDone(0) of 1 too little, the fire out", k.minutesUntilDone(0), -1);
      Kitchens.warmBy1(k);
      CHECKS.due("35: minutesUntilDone(0) a minute ahead", k.minutesUntilDone(0), 1);
      CHECKS.due("33: isDone(0) a minute ahead", k.isDone(0), false);
      k.pass(1);
      CHECKS.due("35: minutesUntilDone(0) now", k.minutesUntilDone(0), 0);
      KitchenSpits lacks2 = Kitchens.browned(pounds, least - 2, least, least, least);
      Kitchens.warmBy1(lacks2);
      CHECKS.due("35: minutesUntilDone(0) of 2 too little, with 1 to get", lacks2.minutesUntilDone(0), -1);
    }
  }

  private static void untilDoneForTheFirstTime() {
    KitchenSpits k = Kitchens.browned(1, 33, 3, 3, 3);
    Kitchens.warmBy1(k);
    CHECKS.due("35: minutesUntilDone(0) of one done now and burnt then", k.minutesUntilDone(0), 0);
    CHECKS.due("36: minutesUntilBurnt(0) of one done now and burnt then", k.minutesUntilBurnt(0), 1);
    k.pass(1);
    CHECKS.due("35: minutesUntilDone(0) of one that was done once", k.minutesUntilDone(0), -1);
    // The glow of 9 takes the last side past what is done in one minute.
    KitchenSpits leapt = Kitchens.hot(1);
    leapt.turnEach(0, 1);
    leapt.hang(0, 1);
    CHECKS.due("35: minutesUntilDone(0) of one done and burnt later", leapt.minutesUntilDone(0), 2);
    CHECKS.due("36: minutesUntilBurnt(0) of one done ahead of it", leapt.minutesUntilBurnt(0) > 2, true);
  }

  private static void untilBurntByAMinute() {
    for (int pounds : new int[] {1, 12}) {
      int most = 3 * pounds + 30;
      KitchenSpits k = Kitchens.browned(pounds, most, 0, 0, 0);
      CHECKS.due("36: minutesUntilBurnt(0) at the edge, the fire out", k.minutesUntilBurnt(0), -1);
      Kitchens.warmBy1(k);
      CHECKS.due("36: minutesUntilBurnt(0) a minute ahead", k.minutesUntilBurnt(0), 1);
      CHECKS.due("34: isBurnt(0) a minute ahead", k.isBurnt(0), false);
      k.pass(1);
      CHECKS.due("36: minutesUntilBurnt(0) now", k.minutesUntilBurnt(0), 0);
      KitchenSpits lacks2 = Kitchens.browned(pounds, most - 1, 0, 0, 0);
      Kitchens.warmBy1(lacks2);
      CHECKS.due("36: minutesUntilBurnt(0) of 2 too little, with 1 to get", lacks2.minutesUntilBurnt(0), -1);
    }
  }

  /**
   * As far ahead as a roast can be done or burnt for the first time, or nearly: with logs the glow is
   * soon 3 or more, so the fire is kept low by flares, which last while the roasts have fat. Hence no
   * run of calls has the edge of 200 minutes itself.
   */
  private static void untilMinutesFarAhead() {
    dueFarAhead(85, -1, new int[] {3, 1, 1, 2, 2, 3}, new int[] {12, 6, 12, 8, 8, 10},
        new int[] {14, 4, 20, 0, 6, 8}, new boolean[] {false, true, false, false, false, true}, 6);
    dueFarAhead(-1, 86, new int[] {3, 2, 1, 1, 3, 2}, new int[] {8, 9, 7, 8, 12, 8},
        new int[] {2, 14, 20, 4, 20, 0}, new boolean[] {false, true, false, true, false, true}, 2);
  }

  /** Behind -1 minutes it need not be, and is not looked at. */
  private static void dueFarAhead(int done, int burnt, int[] feet, int[] pounds, int[] pans, boolean[] wet,
      int each) {
    KitchenSpits k = Kitchens.keptLow(feet, pounds, pans, wet, each);
    if (done >= 0) {
      CHECKS.due("35: minutesUntilDone(6) far ahead", k.minutesUntilDone(6), done);
      k.setFeast(k.minute() + done);
      int atFeast = k.doneAtFeast();
      k.setFeast(k.minute() + done - 1);
      CHECKS.due("37: doneAtFeast() a minute ahead", k.doneAtFeast(), atFeast - 1);
      k.pass(done - 1);
      CHECKS.due("33: isDone(6) a minute ahead", k.isDone(6), false);
      CHECKS.due("35: minutesUntilDone(6) a minute ahead", k.minutesUntilDone(6), 1);
      k.pass(1);
      CHECKS.due("33: isDone(6) then", k.isDone(6), true);
    }
    if (burnt >= 0) {
      CHECKS.due("36: minutesUntilBurnt(6) far ahead", k.minutesUntilBurnt(6), burnt);
      k.pass(burnt - 1);
      CHECKS.due("34: isBurnt(6) a minute ahead", k.isBurnt(6), false);
      CHECKS.due("36: minutesUntilBurnt(6) a minute ahead", k.minutesUntilBurnt(6), 1);
      k.pass(1);
      CHECKS.due("34: isBurnt(6) then", k.isBurnt(6), true);
    }
  }

  /** Its minute is the next one that 5 divides, also while one looks ahead. */
  private static void aheadTheLastLogBurnsInItsMinute() {
    for (int minute = 1; minute <= 5; minute++) {
      CHECKS.due("35: minutesUntilDone(0) by the last log from the minute " + minute + " on",
          lastLog(minute).minutesUntilDone(0), Kitchens.passUntilDone(lastLog(minute), 0));
      CHECKS.due("36: minutesUntilBurnt(0) by the last log from the minute " + minute + " on",
          lastLog(minute).minutesUntilBurnt(0), Kitchens.passUntilBurnt(lastLog(minute), 0));
    }
    CHECKS.due("36: minutesUntilBurnt(0) with the heats 1 to 6 and back", lastLog(1).minutesUntilBurnt(0), 10);
  }

  /** One log is left, which burns in the minute 5. */
  private static KitchenSpits lastLog(int minute) {
    KitchenSpits k = Kitchens.kitchen(2, 1);
    k.pass(minute);
    k.hang(0, 1);
    return k;
  }

  private static void aheadEachSpitIsAtItsFire() {
    KitchenSpits k = fullWithFiresLit();
    for (int roast : new int[] {0, 11, 12, 13, 14, 15}) {
      CHECKS.due("35: minutesUntilDone(" + roast + ") in the full kitchen",
          k.minutesUntilDone(roast), Kitchens.passUntilDone(fullWithFiresLit(), roast));
      CHECKS.due("36: minutesUntilBurnt(" + roast + ") in the full kitchen",
          k.minutesUntilBurnt(roast), Kitchens.passUntilBurnt(fullWithFiresLit(), roast));
    }
    CHECKS.due("35: minutesUntilDone(13) at the fire that is lit", k.minutesUntilDone(13) > 0, true);
  }

  private static KitchenSpits fullWithFiresLit() {
    KitchenSpits k = Kitchens.full();
    k.layLogs(1, 2);
    k.turnEach(2, 2);
    k.pass(3);
    return k;
  }

  private static void doneAtFeastFrom0To200Ahead() {
    KitchenSpits k = Kitchens.browned(1, 3, 3, 3, 3);
    int now = k.minute();
    dueAtFeast(k, now - 1, -1);
    dueAtFeast(k, 0, -1);
    dueAtFeast(k, now, 1);
    dueAtFeast(k, now + 1, 1);
    dueAtFeast(k, now + 199, 1);
    dueAtFeast(k, now + 200, 1);
    dueAtFeast(k, now + 201, -1);
    dueAtFeast(k, 5000, -1);
    KitchenSpits empty = new KitchenSpits();
    dueAtFeast(empty, 0, 0);
    dueAtFeast(empty, 200, 0);
    dueAtFeast(empty, 201, -1);
    dueAtFeast(empty, 5000, -1);
    for (int i = 0; i < 24; i++) {
      empty.pass(200);
    }
    dueAtFeast(empty, 5000, 0);
    empty.pass(200);
    dueAtFeast(empty, 5000, 0);
    dueAtFeast(empty, 4999, -1);
    empty.pass(1);
    dueAtFeast(empty, 5000, -1);
    doneAtTheVeryMinute();
  }

  /** At 1 foot it is done by the minute that comes, and burnt by another one. */
  private static void doneAtTheVeryMinute() {
    KitchenSpits k = Kitchens.browned(1, 2, 33, 33, 33);
    Kitchens.warmBy1(k);
    int now = k.minute();
    dueAtFeast(k, now, 0);
    dueAtFeast(k, now + 1, 1);
    dueAtFeast(k, now + 200, 1);
    KitchenSpits burnt = Kitchens.browned(1, 33, 3, 3, 3);
    Kitchens.warmBy1(burnt);
    now = burnt.minute();
    dueAtFeast(burnt, now, 1);
    dueAtFeast(burnt, now + 1, 0);
    dueAtFeast(burnt, now + 200, 0);
  }

  private static void dueAtFeast(KitchenSpits k, int feast, int want) {
    k.setFeast(feast);
    CHECKS.due("37: doneAtFeast(), minute " + k.minute() + ", feast " + feast, k.doneAtFeast(), want);
  }

  private static void doneAtFeastCountsAll16() {
    KitchenSpits k = Kitchens.hot(1, 1, 1, 1, 1, 1);
    for (int spit = 0; spit < 6; spit++) {
      k.turnEach(spit, 1);
    }
    int hung = 0;
    while (hung < 16) {
      int first = hung;
      for (int spit = 0; spit < 6 && hung < 16; spit++) {
        k.hang(spit, 1);
        hung++;
      }
      CHECKS.due("37: doneAtFeast() of " + hung + ", 2 minutes ahead", doneBehind(k, 2), hung);
      CHECKS.due("37: doneAtFeast() of " + hung + ", 1 minute ahead", doneBehind(k, 1), first);
      CHECKS.due("37: doneAtFeast() of " + hung + " when those on spits are burnt", doneBehind(k, 200), first);
      k.pass(2);
      CHECKS.due("37: doneAtFeast() of " + hung + " now", doneBehind(k, 0), hung);
      for (int spit = 0; spit < 6; spit++) {
        if (k.roastOn(spit) >= 0) {
          k.takeDown(spit);
        }
      }
    }
    CHECKS.due("37: doneAtFeast() of all 16, 200 minutes ahead", doneBehind(k, 200), 16);
    CHECKS.due("37: doneAtFeast() of all 16, 201 minutes ahead", doneBehind(k, 201), -1);
  }

  private static int doneBehind(KitchenSpits k, int minutes) {
    k.setFeast(k.minute() + minutes);
    return k.doneAtFeast();
  }

  private static void bestEachFrom1To9() {
    // With 3 * each + 1 lacking, the last 1 comes as soon beside the fire as to it.
    for (int each = 1; each <= 9; each++) {
      for (int lacking = 3 * each - 1; lacking <= Math.min(27, 3 * each + 1); lacking++) {
        dueBestEach(each, 0, 36 - lacking);
        dueBestEach(each, 9, 36 - lacking);
      }
    }
    KitchenSpits done = Kitchens.browned(1, 3, 3, 3, 3);
    done.turnEach(0, 9);
    CHECKS.due("38: bestEach(0) of one that is done, by each the same", done.bestEach(0), 1);
    Kitchens.warmBy1(done);
    CHECKS.due("38: bestEach(0) of one that is done, by a fire", done.bestEach(0), 1);
    KitchenSpits lacks1 = Kitchens.browned(1, 2, 3, 3, 3);
    Kitchens.warmBy1(lacks1);
    CHECKS.due("38: bestEach(0) of one done in a minute, by each the same", lacks1.bestEach(0), 1);
  }

  /** With a glow of 3 a side gets 3 while it is to the fire, and 1 beside it. */
  private static void dueBestEach(int want, int saidBefore, int side0) {
    KitchenSpits k = Kitchens.browned(12, Math.max(0, side0 - 9), 36, 36, 36);
    k.moveSpit(0, 3);
    k.turnEach(0, saidBefore);
    k.layLogs(0, 40);
    k.pass(9);
    if (saidBefore == 9) {
      // Its count is 9 now, from which most numbers would turn it at other minutes than from 0.
      CHECKS.due("38: turnNow(0) back to side 0", turnedBackTo0(k), 0);
    }
    CHECKS.due("38: brownOf(0, 0)", k.brownOf(0, 0), side0);
    CHECKS.due("38: minutesUntilDone(0) as it is turned now", k.minutesUntilDone(0) >= 0, true);
    CHECKS.due("38: bestEach(0) with " + side0 + " of 36", k.bestEach(0), want);
    CHECKS.due("38: turnedEach(0) stays", k.turnedEach(0), saidBefore);
    CHECKS.due("38: sideToFire(0) stays", k.sideToFire(0), 0);
    k.turnEach(0, want);
    CHECKS.due("38: minutesUntilDone(0) by it", k.minutesUntilDone(0), (36 - side0 + 2) / 3);
  }

  private static int turnedBackTo0(KitchenSpits k) {
    k.turnNow(0);
    k.turnNow(0);
    return k.turnNow(0);
  }

  private static void bestEachIsMinus1() {
    KitchenSpits k = Kitchens.hot(1, 1, 1, 1, 1, 1);
    CHECKS.due("38: bestEach(0) without a roast", k.bestEach(0), -1);
    CHECKS.due("38: bestEach(5) without a roast", k.bestEach(5), -1);
    k.hang(5, 1);
    CHECKS.due("38: bestEach(5) with one", k.bestEach(5), 1);
    CHECKS.due("38: bestEach(4) beside it", k.bestEach(4), -1);
    k.takeDown(5);
    CHECKS.due("38: bestEach(5) when it is taken down", k.bestEach(5), -1);
    KitchenSpits out = Kitchens.browned(1, 2, 3, 3, 3);
    CHECKS.due("38: bestEach(0) by a fire that is out", out.bestEach(0), -1);
    KitchenSpits lacks2 = Kitchens.browned(1, 1, 3, 3, 3);
    Kitchens.warmBy1(lacks2);
    CHECKS.due("38: bestEach(0) of 2 too little, with 1 to get", lacks2.bestEach(0), -1);
    KitchenSpits burnt = Kitchens.browned(1, 34, 3, 3, 3);
    burnt.layLogs(0, 40);
    CHECKS.due("38: bestEach(0) of one that is burnt", burnt.bestEach(0), -1);
  }

  private static void bestSpitIsTheSmallest() {
    for (int pounds : new int[] {1, 12}) {
      KitchenSpits k = Kitchens.hot(1, 1, 1, 1, 1, 1);
      for (int spit = 0; spit < 6; spit++) {
        k.turnEach(spit, 1);
      }
      for (int spit = 0; spit < 6; spit++) {
        CHECKS.due("39: bestSpit(" + pounds + ") of those from " + spit + " on", k.bestSpit(pounds), spit);
        CHECKS.due("39, 26: roasts() stays", k.roasts(), spit);
        CHECKS.due("39, 25: roastOn() stays", k.roastOn(spit), -1);
        k.hang(spit, 12);
      }
      CHECKS.due("39: bestSpit(" + pounds + ") without a free one", k.bestSpit(pounds), -1);
      k.takeDown(4);
      CHECKS.due("39: bestSpit(" + pounds + ") with one free again", k.bestSpit(pounds), 4);
      KitchenSpits far = Kitchens.hot(3, 3, 2, 3, 2, 1);
      for (int spit = 0; spit < 6; spit++) {
        far.turnEach(spit, 1);
      }
      CHECKS.due("39: bestSpit(" + pounds + "), the nearest", far.bestSpit(pounds), 5);
    }
  }

  private static void bestSpitIsMinus1() {
    for (int pounds : new int[] {1, 12}) {
      KitchenSpits k = new KitchenSpits();
      CHECKS.due("39: bestSpit(" + pounds + ") in the empty kitchen", k.bestSpit(pounds), -1);
      k.addFire();
      k.layLogs(0, 40);
      CHECKS.due("39: bestSpit(" + pounds + ") without spits", k.bestSpit(pounds), -1);
      k.addSpit(0, 1);
      CHECKS.due("39: bestSpit(" + pounds + ") on a spit that is not turned", k.bestSpit(pounds), -1);
      k.turnEach(0, 1);
      CHECKS.due("39: bestSpit(" + pounds + ") on one that is", k.bestSpit(pounds), 0);
      KitchenSpits cold = Kitchens.kitchen(1, 1);
      cold.turnEach(0, 1);
      cold.pass(20);
      CHECKS.due("39: bestSpit(" + pounds + ") by a fire that is out", cold.bestSpit(pounds), -1);
    }
  }

  private static void bestSpitOfTheLastRoast() {
    KitchenSpits k = Kitchens.hot(2, 1);
    k.turnEach(0, 1);
    k.turnEach(1, 1);
    for (int roast = 0; roast < 15; roast++) {
      k.hang(0, 1);
      k.takeDown(0);
    }
    CHECKS.due("39: bestSpit(1) behind 15", k.bestSpit(1), 1);
    CHECKS.due("39: bestSpit(12) behind 15", k.bestSpit(12), 1);
    CHECKS.due("39: hang(1, 1) behind 15", k.hang(1, 1), 15);
    CHECKS.due("39: minutesUntilDone(15)", k.minutesUntilDone(15), 2);
  }

  private static void meanBrownFrom0To99() {
    KitchenSpits k = Kitchens.browned(1, 1, 0, 0, 0);
    CHECKS.dueDouble("40: meanBrown() of 1, 0, 0 and 0", k.meanBrown(), 0.25);
    k.takeDown(0);
    k.hang(0, 1);
    CHECKS.dueDouble("40: meanBrown() beside a raw one", k.meanBrown(), 0.125);
    k.takeDown(0);
    k.hang(0, 1);
    CHECKS.dueDouble("40: meanBrown() beside two raw ones", k.meanBrown(), 1.0 / 12);
    CHECKS.dueDouble("40: meanBrown() of 99 on all sides", Kitchens.browned(1, 99, 99, 99, 99).meanBrown(), 99);
    KitchenSpits raw = Kitchens.withAllRoastsHung(1);
    CHECKS.dueDouble("40: meanBrown() of 16 raw ones", raw.meanBrown(), 0);
    dueMeanOf16Black();
  }

  private static void dueMeanOf16Black() {
    KitchenSpits k = Kitchens.hot(1, 1, 1, 1, 1, 1);
    for (int spit = 0; spit < 6; spit++) {
      k.turnEach(spit, 1);
    }
    for (int roast = 0; roast < 16; roast++) {
      k.hang(roast % 6, 1);
      if (roast % 6 == 5 || roast == 15) {
        k.pass(40);
        for (int spit = 0; spit <= roast % 6; spit++) {
          k.takeDown(spit);
        }
      }
    }
    CHECKS.dueDouble("40: meanBrown() of 16 black ones", k.meanBrown(), 99);
    CHECKS.due("34: isBurnt(15)", k.isBurnt(15), true);
    CHECKS.due("37: doneAtFeast() of 16 black ones", doneBehind(k, 0), 0);
  }

  private static void digestWrapsAround() {
    CHECKS.due("41: digest() of a new object", new KitchenSpits().digest(),
        digestOf(0, 120, 0, 0, 0));
    KitchenSpits k = new KitchenSpits();
    int[] all = new int[5 + 3 * 2 + 6 * 6 + 16 * 11];
    int at = putAll(all, 0, 0, 5000, 3, 6, 16);
    k.setFeast(5000);
    for (int fire = 0; fire < 3; fire++) {
      k.addFire();
      at = putAll(all, at, k.layLogs(fire, 38 + fire), 0);
      CHECKS.due("41: logsOf(" + fire + ")", all[at - 2], 38 + fire);
    }
    for (int spit = 0; spit < 6; spit++) {
      k.addSpit(spit % 3, 1 + spit % 3);
      k.turnEach(spit, 9 - spit);
      at = putAll(all, at, spit % 3, 1 + spit % 3, 0, 9 - spit, 0, spit == 0 ? 15 : -1);
    }
    for (int roast = 0; roast < 16; roast++) {
      int pounds = 1 + roast % 12;
      k.hang(0, pounds);
      if (roast < 15) {
        k.takeDown(0);
      }
      at = putAll(all, at, pounds, roast < 15 ? -1 : 0, 0, 3 * pounds, 0, 0, 0, 0, 0, 0, 0);
    }
    CHECKS.due("41: how many numbers", at, all.length);
    CHECKS.due("41: digest() of the full kitchen", k.digest(), digestOf(all));
  }

  private static int putAll(int[] all, int from, int... numbers) {
    System.arraycopy(numbers, 0, all, from, numbers.length);
    return from + numbers.length;
  }

  /** Without any wrapping on the way, the last 64 bits of the whole number. */
  private static long digestOf(int... numbers) {
    BigInteger d = BigInteger.valueOf(1951);
    for (int x : numbers) {
      d = d.multiply(BigInteger.valueOf(31)).add(BigInteger.valueOf(x));
    }
    return d.longValue();
  }

  /** Each number of the checksum, by hand. */
  private static void digestOfAnswers() {
    KitchenSpits k = Kitchens.browned(2, 6, 7, 36, 8);
    int minute = k.minute();
    CHECKS.due("41: digest() of a done one", k.digest(),
        digestOf(minute, 120, 1, 1, 1, 0, 0, 0, 1, 0, 0, 0, 0, 2, 0, 0, k.fatOf(0), 0, 1, 0, 6, 7, 36, 8));
    Kitchens.warmBy1(k);
    k.turnNow(0);
    k.turnNow(0);
    CHECKS.due("41: digest() by a glow", k.digest(),
        digestOf(minute + 1, 120, 1, 1, 1, 0, 1, 0, 1, 1, 0, 0, 0, 2, 0, 2, k.fatOf(0), 0, 1, 0, 6, 7, 36, 8));
    k.pass(1);
    k.layLogs(0, 3);
    k.moveSpit(0, 3);
    k.turnEach(0, 9);
    CHECKS.due("41: digest() of a burnt one", k.digest(),
        digestOf(minute + 2, 120, 1, 1, 1, 3, 0, 0, 3, 0, 9, 0, 0, 2, 0, 2, k.fatOf(0), 0, 0, 1, 6, 7, 37, 8));
    k.takeDown(0);
    CHECKS.due("41: digest() of one taken down", k.digest(),
        digestOf(minute + 2, 120, 1, 1, 1, 3, 0, 0, 3, 0, 9, 0, -1, 2, -1, 2, k.fatOf(0), 0, 0, 1, 6, 7, 37, 8));
    KitchenSpits wet = Kitchens.hot(1);
    wet.hang(0, 12);
    wet.pass(5);
    wet.baste(0);
    CHECKS.due("41: digest() of a wet one", wet.digest(),
        digestOf(14, 120, 1, 1, 1, 37, 9, 0, 1, 9, 0, 3, 0, 12, 0, 0, 31, 3, 0, 0, 45, 15, 0, 15));
  }
}
