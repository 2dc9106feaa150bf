import java.util.ArrayList;
import java.util.List;

/**
 * The document told over again as literally as can be, to compare the program with: the five steps
 * of a minute go one behind another, and what would be is tried on a copy that is made anew.
 */
final class Model {
  static final class Fire {
    int logs;
    int heat;
    int flared;
  }

  static final class Spit {
    Fire fire;
    int feet;
    int each;
    int count;
    int drippings;
    Roast roast;
  }

  static final class Roast {
    int pounds;
    int fat;
    int wet;
    int side;
    int got;
    Spit spit;
    int[] brown = new int[4];

    boolean done() {
      int sides = 0;
      for (int b : brown) {
        sides += b >= 3 * pounds && b <= 3 * pounds + 30 ? 1 : 0;
      }
      return sides == 4;
    }

    boolean burnt() {
      return Math.max(Math.max(brown[0], brown[1]), Math.max(brown[2], brown[3])) > 3 * pounds + 30;
    }
  }

  private final List<Fire> fires = new ArrayList<>();
  private final List<Spit> spits = new ArrayList<>();
  private final List<Roast> roasts = new ArrayList<>();
  private int minute = 0;
  private int feast = 120;

  Model() {
  }

  Model(Model other) {
    minute = other.minute;
    feast = other.feast;
    for (Fire f : other.fires) {
      Fire mine = new Fire();
      mine.logs = f.logs;
      mine.heat = f.heat;
      fires.add(mine);
    }
    for (Spit s : other.spits) {
      Spit mine = new Spit();
      mine.fire = fires.get(other.fires.indexOf(s.fire));
      mine.feet = s.feet;
      mine.each = s.each;
      mine.count = s.count;
      mine.drippings = s.drippings;
      spits.add(mine);
    }
    for (Roast r : other.roasts) {
      Roast mine = new Roast();
      mine.pounds = r.pounds;
      mine.fat = r.fat;
      mine.wet = r.wet;
      mine.side = r.side;
      mine.brown = r.brown.clone();
      if (r.spit != null) {
        mine.spit = spits.get(other.spits.indexOf(r.spit));
        mine.spit.roast = mine;
      }
      roasts.add(mine);
    }
  }

  private static <T> T of(List<T> list, int number) {
    if (number < 0 || number >= list.size()) {
      throw new IndexOutOfBoundsException();
    }
    return list.get(number);
  }

  private static void range(int x, int least, int most) {
    if (x < least || x > most) {
      throw new IllegalArgumentException();
    }
  }

  private static void refuse(boolean when) {
    if (when) {
      throw new IllegalStateException();
    }
  }

  /** The answer to a call by its name; a boolean is 1 or 0, a double its bits. */
  long answer(String name, int a, int b) {
    switch (name) {
      case "addFire":
        refuse(fires.size() == 3);
        fires.add(new Fire());
        return fires.size() - 1;
      case "layLogs":
        of(fires, a);
        range(b, 1, 40);
        return of(fires, a).logs = Math.min(of(fires, a).logs + b, 40);
      case "addSpit":
        return addSpit(a, b);
      case "moveSpit": {
        Spit s = of(spits, a);
        range(b, 1, 3);
        int was = s.feet;
        s.feet = b;
        return was;
      }
      case "turnEach": {
        Spit s = of(spits, a);
        range(b, 0, 9);
        int was = s.each;
        s.each = b;
        s.count = 0;
        return was;
      }
      case "setFeast": {
        range(a, 0, 5000);
        int was = feast;
        feast = a;
        return was;
      }
      case "hang":
        return hang(a, b);
      case "turnNow":
        refuse(of(spits, a).roast == null);
        return of(spits, a).roast.side = (of(spits, a).roast.side + 1) % 4;
      case "baste":
        refuse(of(spits, a).roast == null || of(spits, a).drippings < 2);
        of(spits, a).roast.wet = 3;
        return of(spits, a).drippings -= 2;
      case "takeDown": {
        Spit s = of(spits, a);
        refuse(s.roast == null);
        int number = roasts.indexOf(s.roast);
        s.roast.spit = null;
        s.roast = null;
        return number;
      }
      case "emptyPan": {
        int was = of(spits, a).drippings;
        of(spits, a).drippings = 0;
        return was;
      }
      case "pass": {
        range(a, 1, 200);
        int flares = 0;
        for (int i = 0; i < a; i++) {
          flares += aMinute();
        }
        return flares;
      }
      default:
        return asked(name, a, b);
    }
  }

  private int addSpit(int fire, int feet) {
    of(fires, fire);
    range(feet, 1, 3);
    refuse(spits.size() == 6);
    Spit s = new Spit();
    s.fire = fires.get(fire);
    s.feet = feet;
    spits.add(s);
    return spits.size() - 1;
  }

  private int hang(int spit, int pounds) {
    Spit s = of(spits, spit);
    range(pounds, 1, 12);
    refuse(s.roast != null || roasts.size() == 16);
    Roast r = new Roast();
    r.pounds = pounds;
    r.fat = 3 * pounds;
    r.spit = s;
    s.roast = r;
    s.count = 0;
    roasts.add(r);
    return roasts.size() - 1;
  }

  private int aMinute() {
    for (Roast r : roasts) {
      if (r.spit != null) {
        r.got = r.spit.fire.heat / r.spit.feet;
        if (r.wet > 0) {
          r.got = Math.max(r.got - 1, 0);
          r.wet = r.wet - 1;
        }
        int[] more = new int[4];
        more[r.side] = r.got;
        more[(r.side + 1) % 4] = r.got / 3;
        more[(r.side + 3) % 4] = r.got / 3;
        for (int i = 0; i < 4; i++) {
          r.brown[i] = Math.min(99, r.brown[i] + more[i]);
        }
      }
    }
    int flares = 0;
    for (Roast r : roasts) {
      if (r.spit != null && r.got >= 2 && r.fat > 0) {
        r.fat = r.fat - 1;
        if (r.spit.drippings < 20) {
          r.spit.drippings = r.spit.drippings + 1;
        } else {
          r.spit.fire.flared++;
          flares++;
        }
      }
    }
    for (Spit s : spits) {
      if (s.roast != null) {
        s.count++;
        if (s.each != 0 && s.count % s.each == 0) {
          s.roast.side = (s.roast.side + 1) % 4;
        }
      }
    }
    for (Fire f : fires) {
      int heat = f.heat + (f.logs > 0 ? 1 : -1) + f.flared;
      if (f.logs > 0 && minute % 5 == 0) {
        f.logs--;
      }
      f.heat = heat < 0 ? 0 : heat > 9 ? 9 : heat;
      f.flared = 0;
    }
    minute++;
    return flares;
  }

  private long asked(String name, int a, int b) {
    switch (name) {
      case "minute": return minute;
      case "feast": return feast;
      case "fires": return fires.size();
      case "logsOf": return of(fires, a).logs;
      case "heatOf": return of(fires, a).heat;
      case "spits": return spits.size();
      case "fireOf": return fires.indexOf(of(spits, a).fire);
      case "feetOf": return of(spits, a).feet;
      case "glowAt": return of(spits, a).fire.heat / of(spits, a).feet;
      case "turnedEach": return of(spits, a).each;
      case "drippingsOf": return of(spits, a).drippings;
      case "roastOn": return roasts.indexOf(of(spits, a).roast);
      case "roasts": return roasts.size();
      case "poundsOf": return of(roasts, a).pounds;
      case "spitOf": return spits.indexOf(of(roasts, a).spit);
      case "sideToFire": return of(roasts, a).side;
      case "brownOf":
        of(roasts, a);
        if (b < 0 || b > 3) {
          throw new IndexOutOfBoundsException();
        }
        return of(roasts, a).brown[b];
      case "fatOf": return of(roasts, a).fat;
      case "wetFor": return of(roasts, a).wet;
      case "isDone": return of(roasts, a).done() ? 1 : 0;
      case "isBurnt": return of(roasts, a).burnt() ? 1 : 0;
      default: return wouldBe(name, a);
    }
  }

  private long wouldBe(String name, int a) {
    switch (name) {
      case "minutesUntilDone":
        of(roasts, a);
        return new Model(this).until(a, false);
      case "minutesUntilBurnt":
        of(roasts, a);
        return new Model(this).until(a, true);
      case "doneAtFeast": return doneAtFeast();
      case "bestEach": return bestEach(a);
      case "bestSpit": return bestSpit(a);
      case "meanBrown": return Double.doubleToLongBits(meanBrown());
      case "digest": return digest();
      default: throw new IllegalStateException("no such call: " + name);
    }
  }

  private int until(int roast, boolean burnt) {
    for (int minutes = 0; minutes <= 200; minutes++) {
      Roast r = roasts.get(roast);
      if (burnt ? r.burnt() : r.done()) {
        return minutes;
      }
      aMinute();
    }
    return -1;
  }

  private int doneAtFeast() {
    if (minute > feast || feast > minute + 200) {
      return -1;
    }
    Model copy = new Model(this);
    while (copy.minute < copy.feast) {
      copy.aMinute();
    }
    int done = 0;
    for (Roast r : copy.roasts) {
      done += r.done() ? 1 : 0;
    }
    return done;
  }

  private int bestEach(int spit) {
    if (of(spits, spit).roast == null) {
      return -1;
    }
    int[] until = new int[10];
    for (int each = 1; each <= 9; each++) {
      Model copy = new Model(this);
      copy.answer("turnEach", spit, each);
      until[each] = copy.until(roasts.indexOf(of(spits, spit).roast), false);
    }
    return firstOfLeast(until, 1);
  }

  private int bestSpit(int pounds) {
    range(pounds, 1, 12);
    refuse(roasts.size() == 16);
    int[] until = new int[spits.size()];
    for (int spit = 0; spit < until.length; spit++) {
      Model copy = new Model(this);
      until[spit] = spits.get(spit).roast != null ? -1 : copy.until(copy.hang(spit, pounds), false);
    }
    return firstOfLeast(until, 0);
  }

  private static int firstOfLeast(int[] until, int from) {
    for (int minutes = 0; minutes <= 200; minutes++) {
      for (int i = from; i < until.length; i++) {
        if (until[i] == minutes) {
          return i;
        }
      }
    }
    return -1;
  }

  private double meanBrown() {
    int sum = 0;
    int sides = 0;
    for (Roast r : roasts) {
      for (int b : r.brown) {
        sum += b;
        sides++;
      }
    }
    return sides == 0 ? 0 : (double) sum / sides;
  }

  private long digest() {
    List<Long> all = new ArrayList<>();
    for (String name : List.of("minute", "feast", "fires", "spits", "roasts")) {
      all.add(asked(name, 0, 0));
    }
    for (int i = 0; i < fires.size(); i++) {
      for (String name : List.of("logsOf", "heatOf")) {
        all.add(asked(name, i, 0));
      }
    }
    for (int i = 0; i < spits.size(); i++) {
      for (String name : List.of("fireOf", "feetOf", "glowAt", "turnedEach", "drippingsOf", "roastOn")) {
        all.add(asked(name, i, 0));
      }
    }
    for (int i = 0; i < roasts.size(); i++) {
      for (String name : List.of("poundsOf", "spitOf", "sideToFire", "fatOf", "wetFor", "isDone", "isBurnt")) {
        all.add(asked(name, i, 0));
      }
      for (int side = 0; side < 4; side++) {
        all.add(asked("brownOf", i, side));
      }
    }
    long d = 1951;
    for (long x : all) {
      d = d * 31 + x;
    }
    return d;
  }
}
