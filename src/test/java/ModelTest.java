/**
 * Long runs of calls, the same ones each time, made on a CairnShells and on the plain model: every
 * answer, every exception and the digest behind every call must be the same.
 */
public final class ModelTest {
  private static final int RUNS = 300;
  // Half of the 512 calls are digests.
  private static final int CALLS = 256;
  private static final int[] STRANGE = {
    -1, 14, 15, 16, 31, 32, 33, 100, 10000, -2147483648, 2147483647,
  };

  private static long dice;

  public static void main(String[] args) {
    for (int run = 0; run < RUNS && Due.allRight(); run++) {
      dice = run * 7919L + 17;
      play(run);
    }
    Due.end("ModelTest");
  }

  private static void play(int run) {
    CairnShells made = new CairnShells();
    PlainCairn plain = new PlainCairn();
    int layers = 1 + roll(16);
    boolean narrowYears = roll(2) == 0;
    for (int call = 0; call < CALLS && Due.allRight(); call++) {
      step("run " + run + " call " + call + ": ", made, plain, layers, narrowYears);
      Due.is("run " + run + " call " + call + ": digest()", plain.digest(), made::digest);
    }
  }

  private static void step(
      String where, CairnShells made, PlainCairn plain, int layers, boolean narrowYears) {
    int a = number(layers);
    int b = number(layers);
    int kind = number(4);
    int many = number(100);
    int from = year(narrowYears);
    int to = roll(8) == 0 ? year(narrowYears) : Math.min(9999, from + roll(60));
    int told = number(9);
    int counted = number(7);
    switch (roll(20)) {
      case 0, 1 -> {
        if (plain.count(0) < layers || roll(10) == 0) {
          set(where + "find()", plain::find, made::find);
        }
      }
      case 2, 3 -> set(where + "above(" + a + ", " + b + ")",
          () -> plain.above(a, b), () -> made.above(a, b));
      case 4 -> {
        if (roll(3) == 0) {
          set(where + "same(" + a + ", " + b + ")",
              () -> plain.same(a, b), () -> made.same(a, b));
        }
      }
      case 5 -> set(where + "sift(" + a + ", " + kind + ", " + many + ")",
          () -> plain.sift(a, kind, many), () -> made.sift(a, kind, many));
      case 6, 7 -> set(where + "hearth(" + a + ", " + from + ", " + to + ")",
          () -> plain.hearth(a, from, to), () -> made.hearth(a, from, to));
      case 8 -> set(where + "clear(" + a + ")",
          () -> plain.clear(a), () -> made.clear(a));
      case 9 -> set(where + "later(" + a + ", " + b + ")",
          () -> plain.later(a, b), () -> made.later(a, b));
      case 10 -> set(where + "told(" + a + ", " + told + ")",
          () -> plain.told(a, told), () -> made.told(a, told));
      case 11 -> set(where + "finds(" + a + ", " + kind + ")",
          () -> plain.finds(a, kind), () -> made.finds(a, kind));
      case 12 -> set(where + "order(" + a + ")",
          () -> plain.order(a), () -> made.order(a));
      case 13 -> set(where + "between(" + a + ", " + b + ")",
          () -> plain.between(a, b), () -> made.between(a, b));
      case 14 -> set(where + "count(" + counted + ")",
          () -> plain.count(counted), () -> made.count(counted));
      case 15, 16 -> set(where + "blame()", plain::blame, made::blame);
      case 17 -> set(where + "narrows(" + a + ", " + from + ")",
          () -> plain.narrows(a, from), () -> made.narrows(a, from));
      case 18 -> set(where + "tells(" + a + ", " + b + ")",
          () -> plain.tells(a, b), () -> made.tells(a, b));
      default -> set(where + "mean()", plain::mean, made::mean);
    }
  }

  private static void set(String call, Due.Call plain, Due.Call made) {
    Due.is(call, Due.answerOf(plain), made);
  }

  /** Mostly 0 to bound - 1, now and then one past it or far out. */
  private static int number(int bound) {
    int luck = roll(40);
    if (luck == 0) {
      return STRANGE[roll(STRANGE.length)];
    }
    return luck == 1 ? bound : roll(bound);
  }

  private static int year(boolean narrow) {
    int luck = roll(30);
    if (luck == 0) {
      return STRANGE[roll(STRANGE.length)];
    }
    if (luck == 1) {
      return roll(2) * 9999;
    }
    return narrow ? 3000 + roll(200) : roll(10000);
  }

  private static int roll(int sides) {
    dice = dice * 6364136223846793005L + 1442695040888963407L;
    return (int) ((dice >>> 33) % sides);
  }
}
