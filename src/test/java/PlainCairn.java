import java.util.ArrayList;
import java.util.List;

/**
 * The document once more, as literally and slowly as it can be said: it keeps what was told,
 * and works everything out anew: the two relations whenever something was told of layers (else it
 * would be too slow), all else for each question. ModelTest sets CairnShells against it.
 */
final class PlainCairn {
  private static final int MOST = 14;

  private int layers = 0;
  private final List<int[]> toldAbove = new ArrayList<>();
  private final List<int[]> toldSame = new ArrayList<>();
  private boolean[][] alike = {};
  private boolean[][] laters = {};
  private int[][] finds = new int[MOST][4];
  private int[][] hearths = new int[MOST][];

  int find() {
    if (layers == MOST) {
      throw new IllegalStateException();
    }
    layers++;
    workOut();
    return layers - 1;
  }

  int above(int a, int b) {
    layer(a);
    layer(b);
    if (alike[a][b] || laters[b][a]) {
      throw new IllegalStateException();
    }
    toldAbove.add(new int[] {a, b});
    workOut();
    return trues(laters[a]);
  }

  int same(int a, int b) {
    layer(a);
    layer(b);
    if (laters[a][b] || laters[b][a]) {
      throw new IllegalStateException();
    }
    toldSame.add(new int[] {a, b});
    workOut();
    return trues(alike[a]);
  }

  int sift(int layer, int kind, int many) {
    layer(layer);
    index(kind, 4);
    argument(many >= 0 && many <= 99);
    int had = finds[layer][kind];
    finds[layer][kind] = many;
    return had;
  }

  int hearth(int layer, int from, int to) {
    layer(layer);
    argument(from >= 0);
    argument(to <= 9999);
    argument(from <= to);
    hearths[layer] = new int[] {from, to};
    return years(layer)[0];
  }

  int clear(int layer) {
    layer(layer);
    if (hearths[layer] == null) {
      throw new IllegalStateException();
    }
    int from = hearths[layer][0];
    hearths[layer] = null;
    return from;
  }

  boolean later(int a, int b) {
    layer(a);
    layer(b);
    return laters[a][b];
  }

  int told(int layer, int what) {
    layer(layer);
    index(what, 9);
    int[] answers = {
      years(layer)[0],
      years(layer)[1],
      doubtful(layer) ? 1 : 0,
      phase(laters, layer),
      trues(laters[layer]),
      trues(column(laters, layer)),
      trues(alike[layer]),
      season(layer),
      hearths[layer] == null ? 0 : 1,
    };
    return answers[what];
  }

  int finds(int layer, int kind) {
    layer(layer);
    index(kind, 4);
    int sum = 0;
    for (int x = 0; x < layers; x++) {
      sum += alike[layer][x] ? finds[x][kind] : 0;
    }
    return sum;
  }

  int order(int place) {
    index(place, layers);
    boolean[][] later = laters;
    List<Integer> left = new ArrayList<>();
    for (int x = 0; x < layers; x++) {
      left.add(x);
    }
    List<Integer> order = new ArrayList<>();
    while (!left.isEmpty()) {
      for (Integer x : left) {
        if (left.stream().noneMatch(y -> later[x][y])) {
          order.add(x);
          left.remove(x);
          break;
        }
      }
    }
    return order.get(place);
  }

  int between(int a, int b) {
    layer(a);
    layer(b);
    boolean[][] later = laters;
    if (!later[a][b] && !later[b][a]) {
      return -1;
    }
    int lying = 0;
    for (int x = 0; x < layers; x++) {
      if (later[a][x] && later[x][b] || later[b][x] && later[x][a]) {
        lying++;
      }
    }
    return lying;
  }

  int count(int what) {
    index(what, 7);
    int phases = 0;
    int burning = 0;
    int sorts = 0;
    int all = 0;
    for (int x = 0; x < layers; x++) {
      phases = Math.max(phases, phase(laters, x) + 1);
      burning += hearths[x] == null ? 0 : 1;
      boolean firstOfSort = true;
      for (int y = 0; y < x; y++) {
        firstOfSort &= !alike[x][y];
      }
      sorts += firstOfSort ? 1 : 0;
      for (int many : finds[x]) {
        all += many;
      }
    }
    return new int[] {layers, phases, doubtfuls(), burning, pairs(), sorts, all}[what];
  }

  int blame() {
    int now = doubtfuls();
    int fewest = now;
    int blamed = -1;
    for (int x = 0; x < layers; x++) {
      int[] own = hearths[x];
      hearths[x] = null;
      int then = doubtfuls();
      hearths[x] = own;
      if (own != null && then < fewest) {
        fewest = then;
        blamed = x;
      }
    }
    return blamed;
  }

  int narrows(int layer, int year) {
    layer(layer);
    argument(year >= 0 && year <= 9999);
    int[] own = hearths[layer];
    int[][] now = allYears();
    hearths[layer] = new int[] {year, year};
    int[][] then = allYears();
    hearths[layer] = own;
    int sum = 0;
    for (int x = 0; x < layers; x++) {
      if (now[x][0] <= now[x][1] && then[x][0] <= then[x][1]) {
        sum += (now[x][1] - now[x][0]) - (then[x][1] - then[x][0]);
      }
    }
    return sum;
  }

  int tells(int a, int b) {
    layer(a);
    layer(b);
    if (alike[a][b] || laters[b][a]) {
      return -1;
    }
    int now = pairs();
    toldAbove.add(new int[] {a, b});
    workOut();
    int then = pairs();
    toldAbove.remove(toldAbove.size() - 1);
    workOut();
    return then - now;
  }

  double mean() {
    if (layers == 0) {
      return 0;
    }
    int sum = 0;
    for (int x = 0; x < layers; x++) {
      sum += phase(laters, x);
    }
    return sum / (double) layers;
  }

  long digest() {
    List<Integer> numbers = new ArrayList<>();
    for (int what = 0; what <= 6; what++) {
      numbers.add(count(what));
    }
    for (int place = 0; place < layers; place++) {
      numbers.add(order(place));
    }
    for (int x = 0; x < layers; x++) {
      for (int what = 0; what <= 8; what++) {
        numbers.add(told(x, what));
      }
      for (int kind = 0; kind <= 3; kind++) {
        numbers.add(finds(x, kind));
      }
      int set = 0;
      for (int y = 0; y < layers; y++) {
        set += laters[x][y] ? 1 << y : 0;
      }
      numbers.add(set);
    }
    long d = 1361;
    for (int number : numbers) {
      d = d * 31 + number;
    }
    return d;
  }

  private void layer(int layer) {
    index(layer, layers);
  }

  private static void index(int index, int size) {
    if (index < 0 || index >= size) {
      throw new IndexOutOfBoundsException();
    }
  }

  private static void argument(boolean right) {
    if (!right) {
      throw new IllegalArgumentException();
    }
  }

  private void workOut() {
    alike = alikeByTold();
    laters = latersByTold();
  }

  private boolean[][] alikeByTold() {
    boolean[][] alike = new boolean[layers][layers];
    for (int x = 0; x < layers; x++) {
      alike[x][x] = true;
    }
    for (int[] pair : toldSame) {
      alike[pair[0]][pair[1]] = true;
      alike[pair[1]][pair[0]] = true;
    }
    close(alike);
    return alike;
  }

  private boolean[][] latersByTold() {
    boolean[][] later = new boolean[layers][layers];
    for (int[] pair : toldAbove) {
      for (int x = 0; x < layers; x++) {
        for (int y = 0; y < layers; y++) {
          later[x][y] |= alike[x][pair[0]] && alike[pair[1]][y];
        }
      }
    }
    close(later);
    return later;
  }

  private void close(boolean[][] relation) {
    for (int by = 0; by < layers; by++) {
      for (int x = 0; x < layers; x++) {
        for (int y = 0; y < layers; y++) {
          relation[x][y] |= relation[x][by] && relation[by][y];
        }
      }
    }
  }

  private int[] years(int layer) {
    int from = 0;
    int to = 9999;
    for (int x = 0; x < layers; x++) {
      if (hearths[x] != null && (alike[layer][x] || laters[layer][x])) {
        from = Math.max(from, hearths[x][0]);
      }
      if (hearths[x] != null && (alike[layer][x] || laters[x][layer])) {
        to = Math.min(to, hearths[x][1]);
      }
    }
    return new int[] {from, to};
  }

  private int[][] allYears() {
    int[][] years = new int[layers][];
    for (int x = 0; x < layers; x++) {
      years[x] = years(x);
    }
    return years;
  }

  private boolean doubtful(int layer) {
    return years(layer)[0] > years(layer)[1];
  }

  private int doubtfuls() {
    int doubtful = 0;
    for (int x = 0; x < layers; x++) {
      doubtful += doubtful(x) ? 1 : 0;
    }
    return doubtful;
  }

  private int phase(boolean[][] later, int layer) {
    int phase = 0;
    for (int x = 0; x < layers; x++) {
      if (later[layer][x]) {
        phase = Math.max(phase, phase(later, x) + 1);
      }
    }
    return phase;
  }

  private int pairs() {
    int pairs = 0;
    for (boolean[] row : laters) {
      pairs += trues(row);
    }
    return pairs;
  }

  private int season(int layer) {
    int mussels = finds(layer, 0);
    int cockles = finds(layer, 1);
    int bones = finds(layer, 2);
    int teeth = finds(layer, 3);
    if (mussels + cockles + bones + teeth == 0) {
      return -1;
    }
    int winter = 3 * mussels + teeth;
    int spring = 2 * cockles + bones / 2;
    int summer = 2 * bones + cockles;
    int autumn = 4 * teeth + mussels;
    int most = Math.max(Math.max(winter, spring), Math.max(summer, autumn));
    return most == winter ? 0 : most == spring ? 1 : most == summer ? 2 : 3;
  }

  private static boolean[] column(boolean[][] matrix, int y) {
    boolean[] column = new boolean[matrix.length];
    for (int x = 0; x < matrix.length; x++) {
      column[x] = matrix[x][y];
    }
    return column;
  }

  private static int trues(boolean[] row) {
    int trues = 0;
    for (boolean one : row) {
      trues += one ? 1 : 0;
    }
    return trues;
  }
}
