import java.util.ArrayList;
import java.util.List;
import java.util.Random;

/** Long runs of calls, drawn by fixed seeds, each answer and exception compared with the model's. */
public final class WalksTest {
  private static final int WALKS = 1500;
  private static final int CALLS = 512;

  private static final String[] CHANGES = {
    "addFire", "layLogs", "layLogs", "addSpit", "addSpit", "moveSpit", "turnEach", "turnEach", "setFeast",
    "hang", "hang", "turnNow", "baste", "baste", "takeDown", "emptyPan", "pass", "pass", "pass", "pass"};
  private static final String[] QUESTIONS = {
    "minute", "feast", "fires", "logsOf", "heatOf", "spits", "fireOf", "feetOf", "glowAt", "turnedEach",
    "drippingsOf", "roastOn", "roasts", "poundsOf", "spitOf", "sideToFire", "brownOf", "fatOf", "wetFor",
    "isDone", "isBurnt", "minutesUntilDone", "minutesUntilDone", "minutesUntilBurnt", "doneAtFeast",
    "bestEach", "bestSpit", "meanBrown"};
  private static final int[] EXTREMES = {
    Integer.MIN_VALUE, Integer.MIN_VALUE + 1, -1000, -1, 10, 13, 16, 17, 41, 201, 5001, Integer.MAX_VALUE};

  private static final Checks CHECKS = new Checks();

  public static void main(String[] args) {
    for (int seed = 1; seed <= WALKS; seed++) {
      walk(seed);
    }
    CHECKS.end("WalksTest");
  }

  private static void walk(int seed) {
    Random random = new Random(seed);
    KitchenSpits kitchen = new KitchenSpits();
    Model model = new Model();
    List<String> said = new ArrayList<>();
    int longest = seed % 3 == 0 ? 200 : seed % 3 == 1 ? 12 : 3;
    while (said.size() + 2 <= CALLS) {
      String name = pick(random, random.nextInt(3) == 0 ? QUESTIONS : CHANGES);
      int a = first(name, random, longest);
      int b = second(name, random);
      boolean same = compare(seed, said, kitchen, model, name, a, b);
      if (!same || !compare(seed, said, kitchen, model, "digest", 0, 0)) {
        return;
      }
    }
  }

  private static String pick(Random random, String[] names) {
    return names[random.nextInt(names.length)];
  }

  private static int first(String name, Random random, int longest) {
    if (random.nextInt(40) == 0) {
      return EXTREMES[random.nextInt(EXTREMES.length)];
    }
    switch (name) {
      case "layLogs":
      case "addSpit":
      case "logsOf":
      case "heatOf":
        return random.nextInt(4) - random.nextInt(2);
      case "pass":
        return random.nextInt(longest + 1);
      case "setFeast":
        return random.nextInt(400);
      case "bestSpit":
        return random.nextInt(14);
      case "poundsOf":
      case "spitOf":
      case "sideToFire":
      case "brownOf":
      case "fatOf":
      case "wetFor":
      case "isDone":
      case "isBurnt":
      case "minutesUntilDone":
      case "minutesUntilBurnt":
        return random.nextInt(17);
      default:
        return random.nextInt(7) - random.nextInt(2);
    }
  }

  private static int second(String name, Random random) {
    if (random.nextInt(40) == 0) {
      return EXTREMES[random.nextInt(EXTREMES.length)];
    }
    switch (name) {
      case "layLogs":
        return random.nextInt(12);
      case "addSpit":
      case "moveSpit":
      case "brownOf":
        return random.nextInt(5);
      case "turnEach":
        return random.nextInt(11);
      default:
        return random.nextInt(14);
    }
  }

  private static boolean compare(int seed, List<String> said, KitchenSpits kitchen, Model model,
      String name, int a, int b) {
    String got = answer(() -> ofProgram(kitchen, name, a, b));
    String want = answer(() -> model.answer(name, a, b));
    said.add(name + "(" + a + ", " + b + ")");
    CHECKS.dueText("walk " + seed + ", call " + said.size() + ": " + name + "(" + a + ", " + b + ")", got, want);
    return got.equals(want);
  }

  private interface Call {
    long make();
  }

  private static String answer(Call call) {
    try {
      return String.valueOf(call.make());
    } catch (Throwable thrown) {
      return "throws." + thrown.getClass().getName();
    }
  }

  private static long ofProgram(KitchenSpits k, String name, int a, int b) {
    switch (name) {
      case "addFire": return k.addFire();
      case "layLogs": return k.layLogs(a, b);
      case "addSpit": return k.addSpit(a, b);
      case "moveSpit": return k.moveSpit(a, b);
      case "turnEach": return k.turnEach(a, b);
      case "setFeast": return k.setFeast(a);
      case "hang": return k.hang(a, b);
      case "turnNow": return k.turnNow(a);
      case "baste": return k.baste(a);
      case "takeDown": return k.takeDown(a);
      case "emptyPan": return k.emptyPan(a);
      case "pass": return k.pass(a);
      case "minute": return k.minute();
      case "feast": return k.feast();
      case "fires": return k.fires();
      case "logsOf": return k.logsOf(a);
      case "heatOf": return k.heatOf(a);
      case "spits": return k.spits();
      case "fireOf": return k.fireOf(a);
      case "feetOf": return k.feetOf(a);
      case "glowAt": return k.glowAt(a);
      case "turnedEach": return k.turnedEach(a);
      case "drippingsOf": return k.drippingsOf(a);
      case "roastOn": return k.roastOn(a);
      case "roasts": return k.roasts();
      default: return ofRoasts(k, name, a, b);
    }
  }

  private static long ofRoasts(KitchenSpits k, String name, int a, int b) {
    switch (name) {
      case "poundsOf": return k.poundsOf(a);
      case "spitOf": return k.spitOf(a);
      case "sideToFire": return k.sideToFire(a);
      case "brownOf": return k.brownOf(a, b);
      case "fatOf": return k.fatOf(a);
      case "wetFor": return k.wetFor(a);
      case "isDone": return k.isDone(a) ? 1 : 0;
      case "isBurnt": return k.isBurnt(a) ? 1 : 0;
      case "minutesUntilDone": return k.minutesUntilDone(a);
      case "minutesUntilBurnt": return k.minutesUntilBurnt(a);
      case "doneAtFeast": return k.doneAtFeast();
      case "bestEach": return k.bestEach(a);
      case "bestSpit": return k.bestSpit(a);
      case "meanBrown": return Double.doubleToLongBits(k.meanBrown());
      case "digest": return k.digest();
      default: throw new UnsupportedOperationException("no such call: " + name);
    }
  }
}
