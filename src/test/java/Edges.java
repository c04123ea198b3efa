import java.util.function.IntFunction;

/** What the edge tests have in common: cairns to begin with, and numbers just beyond an edge. */
final class Edges {
  static final Class<IllegalStateException> STATE = IllegalStateException.class;
  static final Class<IllegalArgumentException> ARGUMENT = IllegalArgumentException.class;
  static final Class<IndexOutOfBoundsException> INDEX = IndexOutOfBoundsException.class;

  // 32, 33 and 64 stand here since a shift by them is one by 0, 1 and 0; 256 and 65536 since they
  // are 0 as a byte and as a short.
  private static final int[] FAR = {
    31, 32, 33, 64, 256, 65536, Integer.MAX_VALUE, -32, -256, -65536, Integer.MIN_VALUE,
  };

  private Edges() {}

  /** So many layers, of which nothing is told. */
  static CairnShells cairn(int layers) {
    CairnShells x = new CairnShells();
    for (int layer = 0; layer < layers; layer++) {
      x.find();
    }
    return x;
  }

  /** Each layer lies above the one that was found ahead of it. */
  static CairnShells pile(int layers) {
    CairnShells x = cairn(layers);
    for (int layer = 1; layer < layers; layer++) {
      x.above(layer, layer - 1);
    }
    return x;
  }

  /** All layers are one and the same, each told of the one that was found ahead of it. */
  static CairnShells oneLayer(int layers) {
    CairnShells x = cairn(layers);
    for (int layer = 1; layer < layers; layer++) {
      x.same(layer, layer - 1);
    }
    return x;
  }

  /** The call takes 0 to size - 1, and refuses the numbers just beyond these and far from them. */
  static void index(String call, int size, IntFunction<Object> asked) {
    beyond(call, INDEX, size - 1, asked);
  }

  /** The call takes 0 to most, and refuses the numbers just beyond these and far from them. */
  static void beyond(
      String call, Class<? extends RuntimeException> due, int most, IntFunction<Object> asked) {
    Due.refusal(call + " of -1", due, () -> asked.apply(-1));
    Due.refusal(call + " of " + (most + 1), due, () -> asked.apply(most + 1));
    for (int far : FAR) {
      if (far < 0 || far > most) {
        Due.refusal(call + " of " + far, due, () -> asked.apply(far));
      }
    }
  }
}
