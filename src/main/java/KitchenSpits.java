/**
 * A great kitchen ahead of a feast: roasts hang on spits by fires, get brown and drip fat, and one
 * can ask what would be some minutes ahead.
 */
public final class KitchenSpits {
  private static final int MOST_FIRES = 3;
  private static final int MOST_SPITS = 6;
  private static final int MOST_ROASTS = 16;
  private static final int MOST_LOGS = 40;
  private static final int MOST_HEAT = 9;
  private static final int MOST_FEET = 3;
  private static final int MOST_EACH = 9;
  private static final int MOST_POUNDS = 12;
  private static final int MOST_DRIPPINGS = 20;
  private static final int MOST_BROWN = 99;
  private static final int SIDES = 4;
  private static final int FAT_OF_A_POUND = 3;
  private static final int DONE_OF_A_POUND = 3;
  private static final int DONE_UP_TO = 30;
  private static final int DRIPPINGS_TO_BASTE = 2;
  private static final int WET_MINUTES = 3;
  private static final int LOG_MINUTES = 5;
  private static final int FIRST_FEAST = 120;
  private static final int LAST_FEAST = 5000;
  private static final int FARTHEST_AHEAD = 200;
  private static final int NONE = -1;

  private final Kitchen now;

  /** Made once and filled anew for each look ahead, so that no call makes objects of its own. */
  private final Kitchen ahead;

  public KitchenSpits() {
    now = new Kitchen();
    ahead = new Kitchen();
  }

  // ---- the kitchen.

  public int addFire() throws IllegalStateException {
    int number = now.placeFire();
    if (number == NONE) {
      throw new IllegalStateException("there are 3 fires");
    }
    return number;
  }

  public int layLogs(int fire, int logs) throws IndexOutOfBoundsException, IllegalArgumentException {
    Fire laid = needFire(fire);
    if (logs < 1 || logs > MOST_LOGS) {
      throw new IllegalArgumentException("logs is not 1 to 40");
    }
    laid.logs = Math.min(MOST_LOGS, laid.logs + logs);
    return laid.logs;
  }

  public int addSpit(int fire, int feet)
      throws IndexOutOfBoundsException, IllegalArgumentException, IllegalStateException {
    needFire(fire);
    needFeet(feet);
    int number = now.placeSpit(fire, feet);
    if (number == NONE) {
      throw new IllegalStateException("there are 6 spits");
    }
    return number;
  }

  public int moveSpit(int spit, int feet) throws IndexOutOfBoundsException, IllegalArgumentException {
    Spit moved = needSpit(spit);
    needFeet(feet);
    int before = moved.feet;
    moved.feet = feet;
    return before;
  }

  public int turnEach(int spit, int minutes) throws IndexOutOfBoundsException, IllegalArgumentException {
    Spit turned = needSpit(spit);
    if (minutes < 0 || minutes > MOST_EACH) {
      throw new IllegalArgumentException("minutes is not 0 to 9");
    }
    int before = turned.each;
    turned.countAnew(minutes);
    return before;
  }

  public int setFeast(int minute) throws IllegalArgumentException {
    if (minute < 0 || minute > LAST_FEAST) {
      throw new IllegalArgumentException("minute is not 0 to 5000");
    }
    int before = now.feast;
    now.feast = minute;
    return before;
  }

  // ---- roasts.

  public int hang(int spit, int pounds)
      throws IndexOutOfBoundsException, IllegalArgumentException, IllegalStateException {
    needSpit(spit);
    needPounds(pounds);
    int number = now.placeRoast(spit, pounds);
    if (number == NONE) {
      throw new IllegalStateException("the spit has a roast, or 16 roasts were hung already");
    }
    return number;
  }

  public int turnNow(int spit) throws IndexOutOfBoundsException, IllegalStateException {
    Roast turned = needRoastOf(needSpit(spit));
    turned.turn();
    return turned.side;
  }

  public int baste(int spit) throws IndexOutOfBoundsException, IllegalStateException {
    Spit basted = needSpit(spit);
    Roast roast = needRoastOf(basted);
    if (basted.drippings < DRIPPINGS_TO_BASTE) {
      throw new IllegalStateException("the pan has less than 2 drippings");
    }
    basted.drippings -= DRIPPINGS_TO_BASTE;
    roast.wet = WET_MINUTES;
    return basted.drippings;
  }

  public int takeDown(int spit) throws IndexOutOfBoundsException, IllegalStateException {
    Spit freed = needSpit(spit);
    Roast roast = needRoastOf(freed);
    int number = freed.roast;
    roast.spit = NONE;
    freed.roast = NONE;
    return number;
  }

  public int emptyPan(int spit) throws IndexOutOfBoundsException {
    Spit emptied = needSpit(spit);
    int before = emptied.drippings;
    emptied.drippings = 0;
    return before;
  }

  public int pass(int minutes) throws IllegalArgumentException {
    if (minutes < 1 || minutes > FARTHEST_AHEAD) {
      throw new IllegalArgumentException("minutes is not 1 to 200");
    }
    return now.goMinutes(minutes);
  }

  // ---- fires and spits.

  public int minute() {
    return now.minute;
  }

  public int feast() {
    return now.feast;
  }

  public int fires() {
    return now.fireCount;
  }

  public int logsOf(int fire) throws IndexOutOfBoundsException {
    return needFire(fire).logs;
  }

  public int heatOf(int fire) throws IndexOutOfBoundsException {
    return needFire(fire).heat;
  }

  public int spits() {
    return now.spitCount;
  }

  public int fireOf(int spit) throws IndexOutOfBoundsException {
    return needSpit(spit).fire;
  }

  public int feetOf(int spit) throws IndexOutOfBoundsException {
    return needSpit(spit).feet;
  }

  public int glowAt(int spit) throws IndexOutOfBoundsException {
    return now.glowOf(needSpit(spit));
  }

  public int turnedEach(int spit) throws IndexOutOfBoundsException {
    return needSpit(spit).each;
  }

  public int drippingsOf(int spit) throws IndexOutOfBoundsException {
    return needSpit(spit).drippings;
  }

  public int roastOn(int spit) throws IndexOutOfBoundsException {
    return needSpit(spit).roast;
  }

  // ---- what roasts are.

  public int roasts() {
    return now.roastCount;
  }

  public int poundsOf(int roast) throws IndexOutOfBoundsException {
    return needRoast(roast).pounds;
  }

  public int spitOf(int roast) throws IndexOutOfBoundsException {
    return needRoast(roast).spit;
  }

  public int sideToFire(int roast) throws IndexOutOfBoundsException {
    return needRoast(roast).side;
  }

  public int brownOf(int roast, int side) throws IndexOutOfBoundsException {
    Roast asked = needRoast(roast);
    if (side < 0 || side >= asked.brown.length) {
      throw new IndexOutOfBoundsException("side is not 0 to 3");
    }
    return asked.brown[side];
  }

  public int fatOf(int roast) throws IndexOutOfBoundsException {
    return needRoast(roast).fat;
  }

  public int wetFor(int roast) throws IndexOutOfBoundsException {
    return needRoast(roast).wet;
  }

  public boolean isDone(int roast) throws IndexOutOfBoundsException {
    return needRoast(roast).done();
  }

  public boolean isBurnt(int roast) throws IndexOutOfBoundsException {
    return needRoast(roast).burnt();
  }

  // ---- what would be.

  public int minutesUntilDone(int roast) throws IndexOutOfBoundsException {
    needRoast(roast);
    ahead.copyFrom(now);
    return aheadUntilDone(roast);
  }

  public int minutesUntilBurnt(int roast) throws IndexOutOfBoundsException {
    needRoast(roast);
    ahead.copyFrom(now);
    return aheadUntilBurnt(roast);
  }

  public int doneAtFeast() {
    int minutes = now.feast - now.minute;
    if (minutes < 0 || minutes > FARTHEST_AHEAD) {
      return NONE;
    }
    ahead.copyFrom(now);
    ahead.goMinutes(minutes);
    return ahead.countDone();
  }

  public int bestEach(int spit) throws IndexOutOfBoundsException {
    needSpit(spit);
    int best = NONE;
    int soonest = FARTHEST_AHEAD + 1;
    for (int each = 1; each <= MOST_EACH; each++) {
      int minutes = untilDoneTurnedEach(spit, each);
      if (minutes != NONE && minutes < soonest) {
        soonest = minutes;
        best = each;
      }
    }
    return best;
  }

  public int bestSpit(int pounds) throws IllegalArgumentException, IllegalStateException {
    needPounds(pounds);
    if (now.roastCount >= MOST_ROASTS) {
      throw new IllegalStateException("16 roasts were hung already");
    }
    int best = NONE;
    int soonest = FARTHEST_AHEAD + 1;
    for (int spit = 0; spit < now.spitCount; spit++) {
      int minutes = untilDoneHungOn(spit, pounds);
      if (minutes != NONE && minutes < soonest) {
        soonest = minutes;
        best = spit;
      }
    }
    return best;
  }

  public double meanBrown() {
    int sides = now.roastCount * SIDES;
    if (sides <= 0) {
      return 0;
    }
    return (double) now.sumBrown() / sides;
  }

  public long digest() {
    long d = 1951;
    d = mix(d, now.minute);
    d = mix(d, now.feast);
    d = mix(d, now.fireCount);
    d = mix(d, now.spitCount);
    d = mix(d, now.roastCount);
    d = mixFires(d);
    d = mixSpits(d);
    return mixRoasts(d);
  }

  // ---- what the calls need.

  private Fire needFire(int fire) {
    Fire found = now.fireAt(fire);
    if (found == null) {
      throw new IndexOutOfBoundsException("there is no such fire");
    }
    return found;
  }

  private Spit needSpit(int spit) {
    Spit found = now.spitAt(spit);
    if (found == null) {
      throw new IndexOutOfBoundsException("there is no such spit");
    }
    return found;
  }

  private Roast needRoast(int roast) {
    Roast found = now.roastAt(roast);
    if (found == null) {
      throw new IndexOutOfBoundsException("there is no such roast");
    }
    return found;
  }

  private Roast needRoastOf(Spit spit) {
    Roast found = now.roastAt(spit.roast);
    if (found == null) {
      throw new IllegalStateException("the spit has no roast");
    }
    return found;
  }

  private static void needFeet(int feet) {
    if (feet < 1 || feet > MOST_FEET) {
      throw new IllegalArgumentException("feet is not 1 to 3");
    }
  }

  private static void needPounds(int pounds) {
    if (pounds < 1 || pounds > MOST_POUNDS) {
      throw new IllegalArgumentException("pounds is not 1 to 12");
    }
  }

  // ---- the looks ahead.

  private int aheadUntilDone(int roast) {
    Roast watched = ahead.roastAt(roast);
    if (watched == null) {
      return NONE;
    }
    // No side ever gets less brown, so one need not look farther once the roast is burnt.
    for (int minutes = 0; minutes < FARTHEST_AHEAD && !watched.burnt(); minutes++) {
      if (watched.done()) {
        return minutes;
      }
      ahead.goMinute();
    }
    return watched.done() ? FARTHEST_AHEAD : NONE;
  }

  private int aheadUntilBurnt(int roast) {
    Roast watched = ahead.roastAt(roast);
    if (watched == null) {
      return NONE;
    }
    for (int minutes = 0; minutes < FARTHEST_AHEAD; minutes++) {
      if (watched.burnt()) {
        return minutes;
      }
      ahead.goMinute();
    }
    return watched.burnt() ? FARTHEST_AHEAD : NONE;
  }

  private int untilDoneTurnedEach(int spit, int each) {
    ahead.copyFrom(now);
    Spit tried = ahead.spitAt(spit);
    if (tried == null) {
      return NONE;
    }
    tried.countAnew(each);
    return aheadUntilDone(tried.roast);
  }

  private int untilDoneHungOn(int spit, int pounds) {
    ahead.copyFrom(now);
    return aheadUntilDone(ahead.placeRoast(spit, pounds));
  }

  // ---- the checksum.

  private static long mix(long d, long x) {
    return d * 31 + x;
  }

  private long mixFires(long start) {
    long d = start;
    for (int i = 0; i < now.fires.length && i < now.fireCount; i++) {
      Fire fire = now.fires[i];
      d = mix(d, fire.logs);
      d = mix(d, fire.heat);
    }
    return d;
  }

  private long mixSpits(long start) {
    long d = start;
    for (int i = 0; i < now.spits.length && i < now.spitCount; i++) {
      Spit spit = now.spits[i];
      d = mix(d, spit.fire);
      d = mix(d, spit.feet);
      d = mix(d, now.glowOf(spit));
      d = mix(d, spit.each);
      d = mix(d, spit.drippings);
      d = mix(d, spit.roast);
    }
    return d;
  }

  private long mixRoasts(long start) {
    long d = start;
    for (int i = 0; i < now.roasts.length && i < now.roastCount; i++) {
      Roast roast = now.roasts[i];
      d = mix(d, roast.pounds);
      d = mix(d, roast.spit);
      d = mix(d, roast.side);
      d = mix(d, roast.fat);
      d = mix(d, roast.wet);
      d = mix(d, roast.done() ? 1 : 0);
      d = mix(d, roast.burnt() ? 1 : 0);
      for (int brown : roast.brown) {
        d = mix(d, brown);
      }
    }
    return d;
  }

  private static final class Fire {
    int logs;
    int heat;
    /** How often it flared in the minute that goes by; what a flare adds is due at its end only. */
    int flares;

    void copyFrom(Fire other) {
      logs = other.logs;
      heat = other.heat;
      flares = other.flares;
    }

    void burn(int minute) {
      int hotter = flares + (logs > 0 ? 1 : -1);
      if (logs > 0 && minute % LOG_MINUTES == 0) {
        logs--;
      }
      heat = Math.max(0, Math.min(MOST_HEAT, heat + hotter));
      flares = 0;
    }
  }

  private static final class Spit {
    int fire;
    int feet;
    int each;
    int count;
    int drippings;
    int roast = NONE;

    void copyFrom(Spit other) {
      fire = other.fire;
      feet = other.feet;
      each = other.each;
      count = other.count;
      drippings = other.drippings;
      roast = other.roast;
    }

    void countAnew(int minutes) {
      each = minutes;
      count = 0;
    }

    boolean countsToTurn() {
      count++;
      return each > 0 && count % each == 0;
    }

    boolean takesDripping() {
      if (drippings >= MOST_DRIPPINGS) {
        return false;
      }
      drippings++;
      return true;
    }
  }

  private static final class Roast {
    final int[] brown = new int[SIDES];
    int pounds;
    int spit = NONE;
    int side;
    int fat;
    int wet;

    void copyFrom(Roast other) {
      pounds = other.pounds;
      spit = other.spit;
      side = other.side;
      fat = other.fat;
      wet = other.wet;
      for (int i = 0; i < brown.length && i < other.brown.length; i++) {
        brown[i] = other.brown[i];
      }
    }

    /** Answers how much of the glow it got. */
    int getGlow(int glow) {
      int got = glow;
      if (wet > 0) {
        got = Math.max(0, glow - 1);
        wet--;
      }
      getBrowner(side, got);
      getBrowner(nextSide(side), got / 3);
      getBrowner(sideBefore(side), got / 3);
      return got;
    }

    void getBrowner(int which, int more) {
      if (which >= 0 && which < brown.length) {
        int browner = brown[which] + more;
        brown[which] = browner > MOST_BROWN ? MOST_BROWN : browner;
      }
    }

    boolean drips(int got) {
      if (got < 2 || fat <= 0) {
        return false;
      }
      fat--;
      return true;
    }

    void turn() {
      side = nextSide(side);
    }

    boolean done() {
      for (int b : brown) {
        if (b < DONE_OF_A_POUND * pounds || b > DONE_OF_A_POUND * pounds + DONE_UP_TO) {
          return false;
        }
      }
      return true;
    }

    boolean burnt() {
      for (int b : brown) {
        if (b > DONE_OF_A_POUND * pounds + DONE_UP_TO) {
          return true;
        }
      }
      return false;
    }

    static int nextSide(int side) {
      return side >= SIDES - 1 ? 0 : side + 1;
    }

    static int sideBefore(int side) {
      return side <= 0 ? SIDES - 1 : side - 1;
    }
  }

  /** All that a kitchen is at one minute; its places are made once and taken one behind another. */
  private static final class Kitchen {
    final Fire[] fires = new Fire[MOST_FIRES];
    final Spit[] spits = new Spit[MOST_SPITS];
    final Roast[] roasts = new Roast[MOST_ROASTS];
    int fireCount;
    int spitCount;
    int roastCount;
    int minute;
    int feast = FIRST_FEAST;

    Kitchen() {
      for (int i = 0; i < fires.length; i++) {
        fires[i] = new Fire();
      }
      for (int i = 0; i < spits.length; i++) {
        spits[i] = new Spit();
      }
      for (int i = 0; i < roasts.length; i++) {
        roasts[i] = new Roast();
      }
    }

    void copyFrom(Kitchen other) {
      for (int i = 0; i < fires.length && i < other.fires.length; i++) {
        fires[i].copyFrom(other.fires[i]);
      }
      for (int i = 0; i < spits.length && i < other.spits.length; i++) {
        spits[i].copyFrom(other.spits[i]);
      }
      for (int i = 0; i < roasts.length && i < other.roasts.length; i++) {
        roasts[i].copyFrom(other.roasts[i]);
      }
      fireCount = other.fireCount;
      spitCount = other.spitCount;
      roastCount = other.roastCount;
      minute = other.minute;
      feast = other.feast;
    }

    Fire fireAt(int number) {
      return number >= 0 && number < fireCount && number < fires.length ? fires[number] : null;
    }

    Spit spitAt(int number) {
      return number >= 0 && number < spitCount && number < spits.length ? spits[number] : null;
    }

    Roast roastAt(int number) {
      return number >= 0 && number < roastCount && number < roasts.length ? roasts[number] : null;
    }

    int placeFire() {
      if (fireCount >= fires.length) {
        return NONE;
      }
      fireCount++;
      return fireCount - 1;
    }

    int placeSpit(int fire, int feet) {
      if (spitCount < 0 || spitCount >= spits.length) {
        return NONE;
      }
      Spit spit = spits[spitCount];
      spit.fire = fire;
      spit.feet = feet;
      spitCount++;
      return spitCount - 1;
    }

    int placeRoast(int spitNumber, int pounds) {
      Spit spit = spitAt(spitNumber);
      if (spit == null || spit.roast != NONE || roastCount < 0 || roastCount >= roasts.length) {
        return NONE;
      }
      Roast roast = roasts[roastCount];
      roast.pounds = pounds;
      roast.fat = FAT_OF_A_POUND * pounds;
      roast.spit = spitNumber;
      spit.roast = roastCount;
      spit.count = 0;
      roastCount++;
      return spit.roast;
    }

    int glowOf(Spit spit) {
      Fire fire = fireAt(spit.fire);
      return fire == null || spit.feet <= 0 ? 0 : fire.heat / spit.feet;
    }

    int goMinutes(int minutes) {
      int flares = 0;
      for (int i = 0; i < minutes; i++) {
        flares += goMinute();
      }
      return flares;
    }

    /** Answers how often a fire flares. Places not taken yet stay as they are: no roast, no heat. */
    int goMinute() {
      int flares = 0;
      for (Spit spit : spits) {
        if (roastForAMinute(spit)) {
          flares++;
        }
      }
      for (Fire fire : fires) {
        fire.burn(minute);
      }
      minute++;
      return flares;
    }

    /**
     * Answers whether the fire flares. A roast's glow, its fat and its turn in a minute touch no other
     * spit, so they may go spit by spit; a flare heats its fire only when all have had their glow.
     */
    boolean roastForAMinute(Spit spit) {
      Roast roast = roastAt(spit.roast);
      Fire fire = fireAt(spit.fire);
      if (roast == null || fire == null) {
        return false;
      }
      int got = roast.getGlow(glowOf(spit));
      boolean flares = roast.drips(got) && !spit.takesDripping();
      if (flares) {
        fire.flares++;
      }
      if (spit.countsToTurn()) {
        roast.turn();
      }
      return flares;
    }

    int countDone() {
      int done = 0;
      for (int i = 0; i < roasts.length && i < roastCount; i++) {
        if (roasts[i].done()) {
          done++;
        }
      }
      return done;
    }

    int sumBrown() {
      int sum = 0;
      for (int i = 0; i < roasts.length && i < roastCount; i++) {
        for (int b : roasts[i].brown) {
          sum += b;
        }
      }
      return sum;
    }
  }
}
