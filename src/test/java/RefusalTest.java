import java.util.function.Function;

/**
 * The two sentences of the document on exceptions, for each method and each reason by itself. That
 * a refused call changes nothing is seen on two cairns which were told the same: the one makes the
 * call, the other does not, and from then on both must answer alike.
 */
public final class RefusalTest {
  private static final int[] NO_LAYERS = {
    -1, 9, 13, 14, 32, 64, Integer.MAX_VALUE, Integer.MIN_VALUE,
  };

  public static void main(String[] args) {
    findRefused();
    aboveRefused();
    sameRefused();
    siftRefused();
    hearthRefused();
    clearRefused();
    questionsRefused();
    tellsOfARefusal();
    siftNamedFirst();
    hearthNamedFirst();
    narrowsNamedFirst();
    layersNamedFirst();
    portraitSeesChanges();
    Due.end("RefusalTest");
  }

  /** 4 over 3 over 2 over 1 over 0; 5 is as 3, 7 as 4; 6 over 5; 8 by itself. */
  private static CairnShells nineLayers() {
    CairnShells x = Edges.pile(5);
    for (int layer = 5; layer < 9; layer++) {
      x.find();
    }
    x.same(5, 3);
    x.above(6, 5);
    x.same(7, 4);
    x.sift(3, 0, 99);
    x.sift(5, 0, 1);
    x.sift(1, 2, 7);
    x.sift(7, 1, 50);
    x.sift(8, 3, 2);
    x.hearth(1, 300, 400);
    x.hearth(3, 350, 395);
    x.hearth(5, 310, 390);
    x.hearth(4, 200, 396);
    x.hearth(6, 300, 345);
    return x;
  }

  private static void refused(
      String call, Class<? extends RuntimeException> due, Function<CairnShells, Object> made) {
    CairnShells asked = nineLayers();
    Due.refusal(call, due, () -> made.apply(asked));
    Due.is("portrait behind " + call, portrait(nineLayers()), () -> portrait(asked));
  }

  /**
   * All that can be asked; then it takes away the finds and the hearths, that of the last layer
   * first, so that each year which was hidden behind another one comes to light.
   */
  private static String portrait(CairnShells x) {
    StringBuilder text = new StringBuilder();
    text.append(x.digest()).append(' ').append(x.blame()).append(' ').append(x.mean());
    int layers = x.count(0);
    for (int a = 0; a < layers; a++) {
      for (int b = 0; b < layers; b++) {
        text.append(' ').append(x.tells(a, b)).append(' ').append(x.between(a, b));
      }
      text.append(' ').append(x.narrows(a, 340));
    }
    for (int layer = layers - 1; layer >= 0; layer--) {
      for (int kind = 0; kind < 4; kind++) {
        text.append(' ').append(x.sift(layer, kind, 0));
      }
      int each = layer;
      text.append(' ').append(Due.answerOf(() -> x.clear(each))).append(' ').append(x.digest());
    }
    return text.append(' ').append(Due.answerOf(x::find)).toString();
  }

  private static void findRefused() {
    Due.sentence("A method that throws an exception changes nothing: find with 14");
    CairnShells x = Edges.pile(14);
    Due.refusal("find()", Edges.STATE, x::find);
    Due.is("digest()", Edges.pile(14).digest(), x::digest);
    Due.is("layers", 14, () -> x.count(0));
    Due.is("hearth(13, 1, 2)", 1, () -> x.hearth(13, 1, 2));
    Due.is("told(13, 4)", 13, () -> x.told(13, 4));
  }

  private static void aboveRefused() {
    Due.sentence("A method that throws an exception changes nothing: above without such a layer");
    for (int no : NO_LAYERS) {
      refused("above(" + no + ", 0)", Edges.INDEX, x -> x.above(no, 0));
      refused("above(8, " + no + ")", Edges.INDEX, x -> x.above(8, no));
    }
    Due.sentence("A method that throws an exception changes nothing: above of the same");
    refused("above(8, 8)", Edges.STATE, x -> x.above(8, 8));
    refused("above(3, 5)", Edges.STATE, x -> x.above(3, 5));
    refused("above(4, 7)", Edges.STATE, x -> x.above(4, 7));
    Due.sentence("A method that throws an exception changes nothing: above with b later than a");
    refused("above(0, 1)", Edges.STATE, x -> x.above(0, 1));
    refused("above(0, 4)", Edges.STATE, x -> x.above(0, 4));
    refused("above(2, 7)", Edges.STATE, x -> x.above(2, 7));
    refused("above(3, 6)", Edges.STATE, x -> x.above(3, 6));
  }

  private static void sameRefused() {
    Due.sentence("A method that throws an exception changes nothing: same without such a layer");
    for (int no : NO_LAYERS) {
      refused("same(" + no + ", 0)", Edges.INDEX, x -> x.same(no, 0));
      refused("same(8, " + no + ")", Edges.INDEX, x -> x.same(8, no));
    }
    Due.sentence("A method that throws an exception changes nothing: same of one that is later");
    refused("same(1, 0)", Edges.STATE, x -> x.same(1, 0));
    refused("same(0, 1)", Edges.STATE, x -> x.same(0, 1));
    refused("same(0, 7)", Edges.STATE, x -> x.same(0, 7));
    refused("same(7, 0)", Edges.STATE, x -> x.same(7, 0));
    refused("same(6, 3)", Edges.STATE, x -> x.same(6, 3));
    refused("same(3, 6)", Edges.STATE, x -> x.same(3, 6));
  }

  private static void siftRefused() {
    Due.sentence("A method that throws an exception changes nothing: sift");
    for (int no : NO_LAYERS) {
      refused("sift(" + no + ", 1, 5)", Edges.INDEX, x -> x.sift(no, 1, 5));
    }
    for (int no : new int[] {-1, 4, 5, Integer.MAX_VALUE, Integer.MIN_VALUE}) {
      refused("sift(1, " + no + ", 5)", Edges.INDEX, x -> x.sift(1, no, 5));
    }
    for (int no : new int[] {-1, 100, Integer.MAX_VALUE, Integer.MIN_VALUE}) {
      refused("sift(1, 2, " + no + ")", Edges.ARGUMENT, x -> x.sift(1, 2, no));
      refused("sift(8, 0, " + no + ")", Edges.ARGUMENT, x -> x.sift(8, 0, no));
    }
  }

  private static void hearthRefused() {
    Due.sentence("A method that throws an exception changes nothing: hearth");
    for (int no : NO_LAYERS) {
      refused("hearth(" + no + ", 5, 6)", Edges.INDEX, x -> x.hearth(no, 5, 6));
    }
    for (int layer : new int[] {1, 8}) {
      String call = "hearth(" + layer + ", ";
      refused(call + "-1, 350)", Edges.ARGUMENT, x -> x.hearth(layer, -1, 350));
      refused(call + "350, 10000)", Edges.ARGUMENT, x -> x.hearth(layer, 350, 10000));
      refused(call + "351, 350)", Edges.ARGUMENT, x -> x.hearth(layer, 351, 350));
      refused(call + "10000, -1)", Edges.ARGUMENT, x -> x.hearth(layer, 10000, -1));
    }
  }

  private static void clearRefused() {
    Due.sentence("A method that throws an exception changes nothing: clear");
    for (int no : NO_LAYERS) {
      refused("clear(" + no + ")", Edges.INDEX, x -> x.clear(no));
    }
    for (int none : new int[] {0, 2, 7, 8}) {
      refused("clear(" + none + ")", Edges.STATE, x -> x.clear(none));
    }
  }

  private static void questionsRefused() {
    Due.sentence("A method that throws an exception changes nothing: what is told");
    for (int no : new int[] {-1, 9, Integer.MAX_VALUE, Integer.MIN_VALUE}) {
      refused("later(" + no + ", 0)", Edges.INDEX, x -> x.later(no, 0));
      refused("later(0, " + no + ")", Edges.INDEX, x -> x.later(0, no));
      refused("told(" + no + ", 0)", Edges.INDEX, x -> x.told(no, 0));
      refused("told(0, " + no + ")", Edges.INDEX, x -> x.told(0, no));
      refused("finds(" + no + ", 0)", Edges.INDEX, x -> x.finds(no, 0));
      refused("finds(0, " + no + ")", Edges.INDEX, x -> x.finds(0, no));
      refused("order(" + no + ")", Edges.INDEX, x -> x.order(no));
      refused("between(" + no + ", 0)", Edges.INDEX, x -> x.between(no, 0));
      refused("between(0, " + no + ")", Edges.INDEX, x -> x.between(0, no));
      refused("count(" + no + ")", Edges.INDEX, x -> x.count(no));
    }
    Due.sentence("A method that throws an exception changes nothing: what would be");
    for (int no : new int[] {-1, 9, Integer.MAX_VALUE, Integer.MIN_VALUE}) {
      refused("narrows(" + no + ", 340)", Edges.INDEX, x -> x.narrows(no, 340));
      refused("tells(" + no + ", 0)", Edges.INDEX, x -> x.tells(no, 0));
      refused("tells(0, " + no + ")", Edges.INDEX, x -> x.tells(0, no));
    }
    for (int no : new int[] {-1, 10000, Integer.MAX_VALUE, Integer.MIN_VALUE}) {
      refused("narrows(1, " + no + ")", Edges.ARGUMENT, x -> x.narrows(1, no));
    }
  }

  private static void tellsOfARefusal() {
    Due.sentence("16: -1 if that would be refused (nothing is changed)");
    CairnShells asked = nineLayers();
    Due.is("tells(3, 5)", -1, () -> asked.tells(3, 5));
    Due.is("tells(0, 7)", -1, () -> asked.tells(0, 7));
    Due.is("tells(8, 8)", -1, () -> asked.tells(8, 8));
    Due.is("portrait behind it", portrait(nineLayers()), () -> portrait(asked));
  }

  private static void siftNamedFirst() {
    Due.sentence("If several exceptions apply, the one that is named first is thrown: sift");
    refused("sift(9, 4, 100)", Edges.INDEX, x -> x.sift(9, 4, 100));
    refused("sift(9, 0, 100)", Edges.INDEX, x -> x.sift(9, 0, 100));
    refused("sift(0, 4, 100)", Edges.INDEX, x -> x.sift(0, 4, 100));
    refused("sift(-1, 0, -1)", Edges.INDEX, x -> x.sift(-1, 0, -1));
    refused("sift(0, -1, -1)", Edges.INDEX, x -> x.sift(0, -1, -1));
  }

  private static void hearthNamedFirst() {
    Due.sentence("If several exceptions apply, the one that is named first is thrown: hearth");
    refused("hearth(9, -1, 0)", Edges.INDEX, x -> x.hearth(9, -1, 0));
    refused("hearth(9, 0, 10000)", Edges.INDEX, x -> x.hearth(9, 0, 10000));
    refused("hearth(9, 1, 0)", Edges.INDEX, x -> x.hearth(9, 1, 0));
    refused("hearth(-1, 10000, -1)", Edges.INDEX, x -> x.hearth(-1, 10000, -1));
  }

  private static void narrowsNamedFirst() {
    Due.sentence("If several exceptions apply, the one that is named first is thrown: narrows");
    refused("narrows(9, 10000)", Edges.INDEX, x -> x.narrows(9, 10000));
    refused("narrows(9, -1)", Edges.INDEX, x -> x.narrows(9, -1));
    refused("narrows(-1, 10000)", Edges.INDEX, x -> x.narrows(-1, 10000));
    refused("narrows(-1, -1)", Edges.INDEX, x -> x.narrows(-1, -1));
  }

  private static void layersNamedFirst() {
    Due.sentence("If several exceptions apply, the one that is named first is thrown: above, same"
        + " and clear");
    // No such layer is the same as itself, and none has a hearth.
    refused("above(9, 9)", Edges.INDEX, x -> x.above(9, 9));
    refused("above(-1, -1)", Edges.INDEX, x -> x.above(-1, -1));
    refused("same(9, 9)", Edges.INDEX, x -> x.same(9, 9));
    refused("same(-1, -1)", Edges.INDEX, x -> x.same(-1, -1));
    refused("clear(9)", Edges.INDEX, x -> x.clear(9));
  }

  /** A portrait that stayed the same after these would prove nothing above. */
  private static void portraitSeesChanges() {
    Due.sentence("what the portrait is for: each change of its own is seen");
    seen("find()", CairnShells::find);
    seen("above(8, 0)", x -> x.above(8, 0));
    seen("above(6, 7)", x -> x.above(6, 7));
    seen("same(8, 0)", x -> x.same(8, 0));
    seen("same(6, 7)", x -> x.same(6, 7));
    seen("sift(3, 0, 98)", x -> x.sift(3, 0, 98));
    seen("hearth(1, 301, 400)", x -> x.hearth(1, 301, 400));
    seen("hearth(1, 300, 401)", x -> x.hearth(1, 300, 401));
    seen("hearth(3, 350, 396)", x -> x.hearth(3, 350, 396));
    seen("hearth(4, 200, 397)", x -> x.hearth(4, 200, 397));
    seen("hearth(5, 310, 391)", x -> x.hearth(5, 310, 391));
    seen("hearth(6, 300, 346)", x -> x.hearth(6, 300, 346));
    seen("hearth(6, 299, 345)", x -> x.hearth(6, 299, 345));
    seen("hearth(8, 0, 9999)", x -> x.hearth(8, 0, 9999));
    seen("clear(5)", x -> x.clear(5));
  }

  private static void seen(String call, Function<CairnShells, Object> made) {
    CairnShells asked = nineLayers();
    made.apply(asked);
    String before = portrait(nineLayers());
    Due.is("a change is seen behind " + call, false, () -> before.equals(portrait(asked)));
  }
}
