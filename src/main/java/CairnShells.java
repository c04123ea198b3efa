/** Readers of a cairn of shells. A set of layers is an int throughout: the bit of each one in it is set. */
public final class CairnShells {
  private static final int MOST_LAYERS = 14;
  private static final int KINDS = 4;
  private static final int MUSSELS = 0;
  private static final int COCKLES = 1;
  private static final int HERRING_BONES = 2;
  private static final int DOGS_TEETH = 3;
  private static final int MOST_FINDS = 99;
  private static final int SEASONS = 4;
  private static final int FIRST_YEAR = 0;
  private static final int LAST_YEAR = 9999;
  private static final int TOLD_THINGS = 9;
  private static final int COUNTED_THINGS = 7;
  private static final long DIGEST_START = 1361L;
  private static final long DIGEST_FACTOR = 31L;

  private final Strata strata;
  private final Sieve sieve;
  private final Hearths hearths;
  // Made once and filled anew for each "what if", so that no call makes an object.
  private final Hearths trial;

  public CairnShells() {
    strata = new Strata();
    sieve = new Sieve();
    hearths = new Hearths();
    trial = new Hearths();
  }

  // ---- layers, finds, hearths

  public int find() throws IllegalStateException {
    if (strata.size() >= MOST_LAYERS) {
      throw new IllegalStateException("there are 14 layers");
    }
    return strata.addLayer();
  }

  public int above(int a, int b) throws IndexOutOfBoundsException, IllegalStateException {
    checkLayer(a);
    checkLayer(b);
    if (strata.refusesAbove(a, b)) {
      throw new IllegalStateException("both are the same, or the other one is later");
    }
    strata.putAbove(a, b);
    return Integer.bitCount(strata.below(a));
  }

  public int same(int a, int b) throws IndexOutOfBoundsException, IllegalStateException {
    checkLayer(a);
    checkLayer(b);
    if (strata.isLater(a, b) || strata.isLater(b, a)) {
      throw new IllegalStateException("one of them is later than the other one");
    }
    strata.join(a, b);
    return Integer.bitCount(strata.alike(a));
  }

  public int sift(int layer, int kind, int many)
      throws IndexOutOfBoundsException, IllegalArgumentException {
    checkLayer(layer);
    checkKind(kind);
    if (many < 0 || many > MOST_FINDS) {
      throw new IllegalArgumentException("many is not 0 to 99");
    }
    return sieve.put(layer, kind, many);
  }

  public int hearth(int layer, int from, int to)
      throws IndexOutOfBoundsException, IllegalArgumentException {
    checkLayer(layer);
    if (from < FIRST_YEAR || to > LAST_YEAR || from > to) {
      throw new IllegalArgumentException("no such span of years");
    }
    hearths.put(layer, from, to);
    return firstYear(hearths, layer);
  }

  public int clear(int layer) throws IndexOutOfBoundsException, IllegalStateException {
    checkLayer(layer);
    if (!hearths.isAt(layer)) {
      throw new IllegalStateException("the layer has no hearth");
    }
    int from = hearths.firstAt(layer);
    hearths.take(layer);
    return from;
  }

  // ---- what is told

  public boolean later(int a, int b) throws IndexOutOfBoundsException {
    checkLayer(a);
    checkLayer(b);
    return strata.isLater(a, b);
  }

  public int told(int layer, int what) throws IndexOutOfBoundsException {
    checkLayer(layer);
    checkIndex(what, TOLD_THINGS);
    return toldOf(layer, what);
  }

  public int finds(int layer, int kind) throws IndexOutOfBoundsException {
    checkLayer(layer);
    checkKind(kind);
    return findsOf(layer, kind);
  }

  public int order(int place) throws IndexOutOfBoundsException {
    checkIndex(place, strata.size());
    return strata.placed(place);
  }

  public int between(int a, int b) throws IndexOutOfBoundsException {
    checkLayer(a);
    checkLayer(b);
    if (strata.isLater(a, b)) {
      return Integer.bitCount(strata.below(a) & strata.onTop(b));
    }
    if (strata.isLater(b, a)) {
      return Integer.bitCount(strata.below(b) & strata.onTop(a));
    }
    return -1;
  }

  public int count(int what) throws IndexOutOfBoundsException {
    checkIndex(what, COUNTED_THINGS);
    return counted(what);
  }

  // ---- what would be

  public int blame() {
    int blamed = -1;
    int fewest = doubtfulLayers(hearths);
    for (int layer = 0; layer < strata.size(); layer++) {
      trial.copy(hearths);
      trial.take(layer);
      int left = doubtfulLayers(trial);
      if (left < fewest) {
        fewest = left;
        blamed = layer;
      }
    }
    return blamed;
  }

  public int narrows(int layer, int year)
      throws IndexOutOfBoundsException, IllegalArgumentException {
    checkLayer(layer);
    if (year < FIRST_YEAR || year > LAST_YEAR) {
      throw new IllegalArgumentException("year is not 0 to 9999");
    }
    trial.copy(hearths);
    trial.put(layer, year, year);
    int years = 0;
    for (int x = 0; x < strata.size(); x++) {
      if (!isDoubtful(hearths, x) && !isDoubtful(trial, x)) {
        years += span(hearths, x) - span(trial, x);
      }
    }
    return years;
  }

  public int tells(int a, int b) throws IndexOutOfBoundsException {
    checkLayer(a);
    checkLayer(b);
    return strata.refusesAbove(a, b) ? -1 : strata.pairsMore(a, b);
  }

  public double mean() {
    int layers = strata.size();
    if (layers == 0) {
      return 0.0;
    }
    int sum = 0;
    for (int layer = 0; layer < layers; layer++) {
      sum += strata.phase(layer);
    }
    return (double) sum / (double) layers;
  }

  public long digest() {
    long d = DIGEST_START;
    for (int what = 0; what < COUNTED_THINGS; what++) {
      d = mixed(d, counted(what));
    }
    for (int place = 0; place < strata.size(); place++) {
      d = mixed(d, strata.placed(place));
    }
    for (int layer = 0; layer < strata.size(); layer++) {
      d = mixedLayer(d, layer);
    }
    return d;
  }

  private long mixedLayer(long start, int layer) {
    long d = start;
    for (int what = 0; what < TOLD_THINGS; what++) {
      d = mixed(d, toldOf(layer, what));
    }
    for (int kind = 0; kind < KINDS; kind++) {
      d = mixed(d, findsOf(layer, kind));
    }
    return mixed(d, strata.below(layer));
  }

  private static long mixed(long d, long x) {
    return d * DIGEST_FACTOR + x;
  }

  private void checkLayer(int layer) {
    checkIndex(layer, strata.size());
  }

  private static void checkKind(int kind) {
    checkIndex(kind, KINDS);
  }

  private static void checkIndex(int index, int size) {
    if (index < 0 || index >= size) {
      throw new IndexOutOfBoundsException("there is no such one");
    }
  }

  private int toldOf(int layer, int what) {
    switch (what) {
      case 0:
        return firstYear(hearths, layer);
      case 1:
        return lastYear(hearths, layer);
      case 2:
        return isDoubtful(hearths, layer) ? 1 : 0;
      case 3:
        return strata.phase(layer);
      case 4:
        return Integer.bitCount(strata.below(layer));
      case 5:
        return Integer.bitCount(strata.onTop(layer));
      case 6:
        return Integer.bitCount(strata.alike(layer));
      case 7:
        return season(layer);
      default:
        return hearths.isAt(layer) ? 1 : 0;
    }
  }

  private int counted(int what) {
    switch (what) {
      case 0:
        return strata.size();
      case 1:
        return strata.phases();
      case 2:
        return doubtfulLayers(hearths);
      case 3:
        return hearths.size();
      case 4:
        return strata.pairs();
      case 5:
        return strata.sorts();
      default:
        return sieve.all();
    }
  }

  private int findsOf(int layer, int kind) {
    return sieve.sum(strata.alike(layer), kind);
  }

  private int season(int layer) {
    int mussels = findsOf(layer, MUSSELS);
    int cockles = findsOf(layer, COCKLES);
    int bones = findsOf(layer, HERRING_BONES);
    int teeth = findsOf(layer, DOGS_TEETH);
    int best = -1;
    // Any find counts for some season, so that nothing above 0 means that there are no finds.
    int most = 0;
    for (int season = 0; season < SEASONS; season++) {
      int points = weight(season, mussels, cockles, bones, teeth);
      if (points > most) {
        most = points;
        best = season;
      }
    }
    return best;
  }

  private static int weight(int season, int mussels, int cockles, int bones, int teeth) {
    switch (season) {
      case 0:
        return 3 * mussels + teeth;
      case 1:
        return 2 * cockles + bones / 2;
      case 2:
        return 2 * bones + cockles;
      default:
        return 4 * teeth + mussels;
    }
  }

  private int firstYear(Hearths dating, int layer) {
    return dating.greatestFirst(strata.alike(layer) | strata.below(layer));
  }

  private int lastYear(Hearths dating, int layer) {
    return dating.leastLast(strata.alike(layer) | strata.onTop(layer));
  }

  private int span(Hearths dating, int layer) {
    return lastYear(dating, layer) - firstYear(dating, layer);
  }

  private boolean isDoubtful(Hearths dating, int layer) {
    return firstYear(dating, layer) > lastYear(dating, layer);
  }

  private int doubtfulLayers(Hearths dating) {
    int doubtful = 0;
    for (int layer = 0; layer < strata.size(); layer++) {
      if (isDoubtful(dating, layer)) {
        doubtful++;
      }
    }
    return doubtful;
  }

  private static boolean has(int set, int layer) {
    return (set >> layer & 1) != 0;
  }

  /**
   * Which layers are the same, and which are later. All sets are kept closed: they already hold
   * what follows by way of further layers, so that a question is one look.
   */
  private static final class Strata {
    private int layers;
    private final int[] alikes = new int[MOST_LAYERS];
    private final int[] belows = new int[MOST_LAYERS];
    private final int[] tops = new int[MOST_LAYERS];
    private final int[] order = new int[MOST_LAYERS];
    private final int[] phaseOf = new int[MOST_LAYERS];

    int size() {
      return layers;
    }

    int alike(int layer) {
      return alikes[layer];
    }

    int below(int layer) {
      return belows[layer];
    }

    int onTop(int layer) {
      return tops[layer];
    }

    int placed(int place) {
      return order[place];
    }

    int phase(int layer) {
      return phaseOf[layer];
    }

    boolean isLater(int a, int b) {
      return has(belows[a], b);
    }

    boolean refusesAbove(int a, int b) {
      return has(alikes[a], b) || isLater(b, a);
    }

    /** Asks for less than 14 layers. */
    int addLayer() {
      int layer = layers;
      alikes[layer] = 1 << layer;
      layers = layer + 1;
      arrange();
      return layer;
    }

    void putAbove(int a, int b) {
      link(alikes[a] | tops[a], alikes[b] | belows[b]);
      arrange();
    }

    void join(int a, int b) {
      int joined = alikes[a] | alikes[b];
      int lower = belows[a] | belows[b];
      int upper = tops[a] | tops[b];
      for (int layer = 0; layer < layers; layer++) {
        if (has(joined, layer)) {
          alikes[layer] = joined;
        }
      }
      link(joined | upper, lower);
      link(upper, joined);
      arrange();
    }

    private void link(int upper, int lower) {
      for (int layer = 0; layer < layers; layer++) {
        if (has(upper, layer)) {
          belows[layer] |= lower;
        }
        if (has(lower, layer)) {
          tops[layer] |= upper;
        }
      }
    }

    // In this order every layer comes behind all that its phase depends on, so one pass finds both.
    private void arrange() {
      int left = (1 << layers) - 1;
      for (int place = 0; place < layers; place++) {
        int next = lowestFree(left);
        order[place] = next;
        phaseOf[next] = phaseOver(belows[next]);
        left &= ~(1 << next);
      }
    }

    private int lowestFree(int left) {
      int layer = 0;
      while (layer < layers - 1 && !(has(left, layer) && (belows[layer] & left) == 0)) {
        layer++;
      }
      return layer;
    }

    private int phaseOver(int lower) {
      int phase = 0;
      for (int layer = 0; layer < layers; layer++) {
        if (has(lower, layer)) {
          phase = Math.max(phase, phaseOf[layer] + 1);
        }
      }
      return phase;
    }

    int phases() {
      int phases = 0;
      for (int layer = 0; layer < layers; layer++) {
        phases = Math.max(phases, phaseOf[layer] + 1);
      }
      return phases;
    }

    int pairs() {
      int pairs = 0;
      for (int layer = 0; layer < layers; layer++) {
        pairs += Integer.bitCount(belows[layer]);
      }
      return pairs;
    }

    int pairsMore(int a, int b) {
      int upper = alikes[a] | tops[a];
      int lower = alikes[b] | belows[b];
      int more = 0;
      for (int layer = 0; layer < layers; layer++) {
        if (has(upper, layer)) {
          more += Integer.bitCount(lower & ~belows[layer]);
        }
      }
      return more;
    }

    // Each sort is counted at its layer with the smallest number.
    int sorts() {
      int sorts = 0;
      for (int layer = 0; layer < layers; layer++) {
        if ((alikes[layer] & ((1 << layer) - 1)) == 0) {
          sorts++;
        }
      }
      return sorts;
    }
  }

  /** The finds of each layer by itself. */
  private static final class Sieve {
    private final int[] many = new int[MOST_LAYERS * KINDS];

    int put(int layer, int kind, int now) {
      int place = layer * KINDS + kind;
      int had = many[place];
      many[place] = now;
      return had;
    }

    int sum(int set, int kind) {
      int sum = 0;
      for (int layer = 0; layer < MOST_LAYERS; layer++) {
        if (has(set, layer)) {
          sum += many[layer * KINDS + kind];
        }
      }
      return sum;
    }

    int all() {
      int sum = 0;
      for (int place = 0; place < many.length; place++) {
        sum += many[place];
      }
      return sum;
    }
  }

  /** The hearth of each layer by itself; where there is none, the years bind nothing. */
  private static final class Hearths {
    private int burning;
    private final int[] first = new int[MOST_LAYERS];
    private final int[] last = new int[MOST_LAYERS];

    Hearths() {
      for (int layer = 0; layer < MOST_LAYERS; layer++) {
        first[layer] = FIRST_YEAR;
        last[layer] = LAST_YEAR;
      }
    }

    int size() {
      return Integer.bitCount(burning);
    }

    // The years cannot tell this: a hearth may date to 0 to 9999 itself.
    boolean isAt(int layer) {
      return has(burning, layer);
    }

    int firstAt(int layer) {
      return first[layer];
    }

    void put(int layer, int from, int to) {
      burning |= 1 << layer;
      first[layer] = from;
      last[layer] = to;
    }

    void take(int layer) {
      burning &= ~(1 << layer);
      first[layer] = FIRST_YEAR;
      last[layer] = LAST_YEAR;
    }

    void copy(Hearths other) {
      burning = other.burning;
      for (int layer = 0; layer < MOST_LAYERS; layer++) {
        first[layer] = other.first[layer];
        last[layer] = other.last[layer];
      }
    }

    int greatestFirst(int set) {
      int year = FIRST_YEAR;
      for (int layer = 0; layer < MOST_LAYERS; layer++) {
        if (has(set, layer)) {
          year = Math.max(year, first[layer]);
        }
      }
      return year;
    }

    int leastLast(int set) {
      int year = LAST_YEAR;
      for (int layer = 0; layer < MOST_LAYERS; layer++) {
        if (has(set, layer)) {
          year = Math.min(year, last[layer]);
        }
      }
      return year;
    }
  }
}
