/** The edges that promises 8 to 13 name, each sentence by itself. */
public final class EdgeToldTest {
  public static void main(String[] args) {
    laterNoSuchLayer();
    toldNoSuchLayer();
    toldNoSuchWhat();
    toldHowMany();
    toldNoSeason();
    toldOwnHearth();
    findsNoSuchLayer();
    findsNoSuchKind();
    orderSmallestNumber();
    orderOfTheSame();
    orderNoSuchPlace();
    betweenHowMany();
    betweenNoneLater();
    betweenNoSuchLayer();
    countWithoutLayers();
    countOfAll();
    countSorts();
    countNoSuchWhat();
    Due.end("EdgeToldTest");
  }

  private static void laterNoSuchLayer() {
    Due.sentence("8: IndexOutOfBoundsException if there is no such layer");
    for (int layers : new int[] {1, 13, 14}) {
      CairnShells x = Edges.pile(layers);
      String of = " of " + layers;
      Edges.index("later(.., 0)" + of, layers, a -> x.later(a, 0));
      Edges.index("later(0, ..)" + of, layers, b -> x.later(0, b));
      Edges.index("later(.., the same)" + of, layers, a -> x.later(a, a));
      Due.is("later of the last one" + of, layers > 1, () -> x.later(layers - 1, 0));
    }
  }

  private static void toldNoSuchLayer() {
    Due.sentence("9: IndexOutOfBoundsException if there is no such layer");
    for (int layers : new int[] {1, 13, 14}) {
      for (int what : new int[] {0, 2, 6, 8}) {
        CairnShells x = Edges.pile(layers);
        Edges.index("told(.., " + what + ") of " + layers, layers, layer -> x.told(layer, what));
      }
      CairnShells y = Edges.pile(layers);
      Due.is("told of the last one", layers - 1, () -> y.told(layers - 1, 3));
    }
  }

  private static void toldNoSuchWhat() {
    Due.sentence("9: IndexOutOfBoundsException if what is not 0 to 8");
    for (int layer : new int[] {0, 1, 13}) {
      CairnShells x = Edges.pile(14);
      x.hearth(layer, 30, 30);
      Edges.index("told(" + layer + ", ..)", 9, what -> x.told(layer, what));
      Due.is("told(" + layer + ", 0)", 30, () -> x.told(layer, 0));
      Due.is("told(" + layer + ", 8)", 1, () -> x.told(layer, 8));
    }
  }

  private static void toldHowMany() {
    Due.sentence("9: layers than which it is later, that are later than it, that are the same,"
        + " with it");
    CairnShells pile = Edges.pile(14);
    for (int layer = 0; layer < 14; layer++) {
      int each = layer;
      Due.is("told(" + layer + ", 4) of a pile", layer, () -> pile.told(each, 4));
      Due.is("told(" + layer + ", 5) of a pile", 13 - layer, () -> pile.told(each, 5));
      Due.is("told(" + layer + ", 6) of a pile", 1, () -> pile.told(each, 6));
    }
    CairnShells one = Edges.oneLayer(14);
    for (int layer = 0; layer < 14; layer++) {
      int each = layer;
      Due.is("told(" + layer + ", 4) of one", 0, () -> one.told(each, 4));
      Due.is("told(" + layer + ", 5) of one", 0, () -> one.told(each, 5));
      Due.is("told(" + layer + ", 6) of one", 14, () -> one.told(each, 6));
    }
  }

  private static void toldNoSeason() {
    Due.sentence("9: its season, -1 for none");
    CairnShells x = Edges.pile(14);
    x.sift(12, 0, 1);
    for (int layer = 0; layer < 14; layer++) {
      int each = layer;
      Due.is("told(" + layer + ", 7)", layer == 12 ? 0 : -1, () -> x.told(each, 7));
    }
  }

  private static void toldOwnHearth() {
    Due.sentence("9: 1 if it has a hearth itself, else 0");
    CairnShells x = Edges.oneLayer(13);
    x.find();
    x.above(13, 0);
    x.hearth(12, 0, 9999);
    for (int layer = 0; layer < 14; layer++) {
      int each = layer;
      Due.is("told(" + layer + ", 8)", layer == 12 ? 1 : 0, () -> x.told(each, 8));
    }
    x.clear(12);
    Due.is("told(12, 8) cleared", 0, () -> x.told(12, 8));
  }

  private static void findsNoSuchLayer() {
    Due.sentence("10: IndexOutOfBoundsException if there is no such layer");
    for (int layers : new int[] {1, 13, 14}) {
      CairnShells x = Edges.oneLayer(layers);
      x.sift(0, 3, 9);
      Edges.index("finds(.., 3) of " + layers, layers, layer -> x.finds(layer, 3));
      Due.is("finds of the last one", 9, () -> x.finds(layers - 1, 3));
    }
  }

  private static void findsNoSuchKind() {
    Due.sentence("10: IndexOutOfBoundsException if kind is not 0 to 3");
    for (int layer : new int[] {0, 1, 13}) {
      CairnShells x = Edges.cairn(14);
      x.sift(layer, 0, 98);
      x.sift(layer, 3, 99);
      Edges.index("finds(" + layer + ", ..)", 4, kind -> x.finds(layer, kind));
      Due.is("finds(" + layer + ", 0)", 98, () -> x.finds(layer, 0));
      Due.is("finds(" + layer + ", 3)", 99, () -> x.finds(layer, 3));
    }
  }

  private static void orderSmallestNumber() {
    Due.sentence("11: each time that with the smallest number of those which are later than none"
        + " that is left");
    order("nothing told", Edges.cairn(14), 0, 1, 2, 3, 4, 5, 6, 7, 8, 9, 10, 11, 12, 13);
    order("a pile", Edges.pile(14), 0, 1, 2, 3, 4, 5, 6, 7, 8, 9, 10, 11, 12, 13);
    CairnShells down = Edges.cairn(14);
    for (int layer = 0; layer < 13; layer++) {
      down.above(layer, layer + 1);
    }
    order("a pile upside down", down, 13, 12, 11, 10, 9, 8, 7, 6, 5, 4, 3, 2, 1, 0);
    CairnShells x = Edges.cairn(5);
    x.above(0, 1);
    order("0 comes at once behind 1", x, 1, 0, 2, 3, 4);
    x.above(2, 4);
    order("2 comes behind 4", x, 1, 0, 3, 4, 2);
    x.above(1, 4);
    order("1 and 0 come behind 4, then 2", x, 3, 4, 1, 0, 2);
  }

  private static void orderOfTheSame() {
    Due.sentence("11: The layers in an order, each one of those that are the same too");
    order("all the same", Edges.oneLayer(14), 0, 1, 2, 3, 4, 5, 6, 7, 8, 9, 10, 11, 12, 13);
    CairnShells x = Edges.cairn(5);
    x.same(0, 4);
    x.above(0, 3);
    order("0 and 4 over 3", x, 1, 2, 3, 0, 4);
    x.above(1, 4);
    order("1 over both", x, 2, 3, 0, 4, 1);
    x.above(3, 2);
    x.same(2, 2);
    order("2 under all", x, 2, 3, 0, 4, 1);
  }

  private static void order(String what, CairnShells x, int... due) {
    for (int place = 0; place < due.length; place++) {
      int each = place;
      Due.is("order(" + place + "), " + what, due[place], () -> x.order(each));
    }
  }

  private static void orderNoSuchPlace() {
    Due.sentence("11: IndexOutOfBoundsException if there is no such place");
    for (int layers : new int[] {0, 1, 13, 14}) {
      CairnShells x = Edges.pile(layers);
      Edges.index("order(..) of " + layers, layers, x::order);
    }
    CairnShells y = Edges.cairn(13);
    Due.is("order(12) of 13", 12, () -> y.order(12));
    y.find();
    Due.is("order(13) of 14", 13, () -> y.order(13));
  }

  private static void betweenHowMany() {
    Due.sentence("12: later than the one of them, and the other one later than these");
    CairnShells pile = Edges.pile(14);
    Due.is("between(13, 0)", 12, () -> pile.between(13, 0));
    Due.is("between(0, 13)", 12, () -> pile.between(0, 13));
    Due.is("between(13, 12)", 0, () -> pile.between(13, 12));
    Due.is("between(0, 1)", 0, () -> pile.between(0, 1));
    Due.is("between(0, 2)", 1, () -> pile.between(0, 2));
    CairnShells x = Edges.cairn(6);
    // 2 over 1 over 0, and in each of these places one more that is the same.
    x.above(1, 0);
    x.above(2, 1);
    x.same(3, 0);
    x.same(4, 1);
    x.same(5, 2);
    Due.is("between(2, 0) by 1 and 4", 2, () -> x.between(2, 0));
    Due.is("between(3, 5) by 1 and 4", 2, () -> x.between(3, 5));
    Due.is("between(4, 3)", 0, () -> x.between(4, 3));
  }

  private static void betweenNoneLater() {
    Due.sentence("12: -1 if none of both is later than the other one");
    CairnShells x = Edges.cairn(14);
    x.above(12, 13);
    x.above(11, 13);
    x.above(10, 12);
    x.above(10, 11);
    x.same(9, 13);
    Due.is("between(0, 0) itself", -1, () -> x.between(0, 0));
    Due.is("between(13, 13) itself", -1, () -> x.between(13, 13));
    Due.is("between(9, 13) the same", -1, () -> x.between(9, 13));
    Due.is("between(0, 1) of nothing told", -1, () -> x.between(0, 1));
    Due.is("between(11, 12) both over 13, both under 10", -1, () -> x.between(11, 12));
    Due.is("between(12, 11) both over 13, both under 10", -1, () -> x.between(12, 11));
    Due.is("between(10, 0)", -1, () -> x.between(10, 0));
    Due.is("between(12, 13) next to each other", 0, () -> x.between(12, 13));
    Due.is("between(9, 10)", 2, () -> x.between(9, 10));
  }

  private static void betweenNoSuchLayer() {
    Due.sentence("12: IndexOutOfBoundsException if there is no such layer");
    for (int layers : new int[] {1, 13, 14}) {
      CairnShells x = Edges.pile(layers);
      String of = " of " + layers;
      Edges.index("between(.., 0)" + of, layers, a -> x.between(a, 0));
      Edges.index("between(0, ..)" + of, layers, b -> x.between(0, b));
      Edges.index("between(.., the same)" + of, layers, a -> x.between(a, a));
      int due = layers == 1 ? -1 : layers - 2;
      Due.is("between of the last one" + of, due, () -> x.between(layers - 1, 0));
    }
  }

  private static void countWithoutLayers() {
    Due.sentence("13: each of these without layers, and with one");
    counts("none", new CairnShells(), 0, 0, 0, 0, 0, 0, 0);
    counts("one", Edges.cairn(1), 1, 1, 0, 0, 0, 1, 0);
  }

  private static void countOfAll() {
    Due.sentence("13: each of these with 14 layers");
    counts("nothing told", Edges.cairn(14), 14, 1, 0, 0, 0, 14, 0);
    CairnShells pile = Edges.pile(14);
    counts("a pile", pile, 14, 14, 0, 0, 91, 14, 0);
    fill(pile);
    counts("a full pile", pile, 14, 14, 14, 14, 91, 14, 5544);
    CairnShells one = Edges.oneLayer(14);
    counts("all the same", one, 14, 1, 0, 0, 0, 1, 0);
    fill(one);
    counts("all the same, full", one, 14, 1, 14, 14, 0, 1, 5544);
    CairnShells halves = Edges.cairn(14);
    for (int layer = 0; layer < 7; layer++) {
      halves.same(layer, 0);
      halves.same(layer + 7, 7);
    }
    halves.above(7, 0);
    counts("seven over seven", halves, 14, 2, 0, 0, 49, 2, 0);
  }

  /** A layer found earlier is dated later, so that all are doubtful. */
  private static void fill(CairnShells x) {
    for (int layer = 0; layer < 14; layer++) {
      x.hearth(layer, 100 - layer, 100 - layer);
      for (int kind = 0; kind < 4; kind++) {
        x.sift(layer, kind, 99);
      }
    }
  }

  private static void countSorts() {
    Due.sentence("13: sorts of layers that are the same (each layer is of one)");
    CairnShells x = Edges.cairn(14);
    for (int layer = 13; layer > 0; layer--) {
      x.same(layer, layer);
      Due.is("sorts ahead of it", layer + 1, () -> x.count(5));
      x.same(layer, layer - 1);
      Due.is("sorts", layer, () -> x.count(5));
    }
    CairnShells y = Edges.cairn(6);
    y.same(0, 5);
    y.same(1, 4);
    y.same(5, 0);
    Due.is("sorts of two pairs and two more", 4, () -> y.count(5));
  }

  private static void counts(String of, CairnShells x, int... due) {
    for (int what = 0; what < due.length; what++) {
      int each = what;
      Due.is("count(" + what + ") of " + of, due[what], () -> x.count(each));
    }
  }

  private static void countNoSuchWhat() {
    Due.sentence("13: IndexOutOfBoundsException if what is not 0 to 6");
    for (int layers : new int[] {0, 1, 13, 14}) {
      CairnShells x = Edges.cairn(layers);
      for (int layer = 0; layer < layers; layer++) {
        x.sift(layer, 1, 2);
      }
      Edges.index("count(..) of " + layers, 7, x::count);
      Due.is("count(0) of " + layers, layers, () -> x.count(0));
      Due.is("count(6) of " + layers, 2 * layers, () -> x.count(6));
    }
  }
}
