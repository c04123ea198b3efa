/** The edges that promises 1 to 7 name, each sentence by itself. */
public final class EdgeLayersTest {
  public static void main(String[] args) {
    newWithoutLayers();
    findWith14();
    findIsNew();
    aboveHowMany();
    aboveNoSuchLayer();
    aboveBothAreTheSame();
    aboveTheLaterOne();
    sameHowMany();
    sameNoSuchLayer();
    sameOfOneLater();
    siftHowManyItHad();
    siftNoSuchLayer();
    siftNoSuchKind();
    siftMany();
    hearthInPlaceOfItsOwn();
    hearthFirstYearThen();
    hearthNoSuchLayer();
    hearthFrom();
    hearthTo();
    hearthFromAndTo();
    clearFirstYear();
    clearNoSuchLayer();
    clearOfNone();
    Due.end("EdgeLayersTest");
  }

  private static void newWithoutLayers() {
    Due.sentence("1: Creates a cairn without layers");
    CairnShells x = new CairnShells();
    for (int what = 0; what <= 6; what++) {
      int each = what;
      Due.is("count(" + what + ")", 0, () -> x.count(each));
    }
    Due.is("blame()", -1, x::blame);
    Due.is("mean()", 0.0, x::mean);
    // 1361 times 31 to the seventh.
    Due.is("digest()", 37444667805071L, x::digest);
    Due.refusal("above(0, 0)", Edges.INDEX, () -> x.above(0, 0));
    Due.refusal("same(0, 0)", Edges.INDEX, () -> x.same(0, 0));
    Due.refusal("sift(0, 0, 0)", Edges.INDEX, () -> x.sift(0, 0, 0));
    Due.refusal("hearth(0, 0, 0)", Edges.INDEX, () -> x.hearth(0, 0, 0));
    Due.refusal("clear(0)", Edges.INDEX, () -> x.clear(0));
    Due.refusal("later(0, 0)", Edges.INDEX, () -> x.later(0, 0));
    Due.refusal("told(0, 0)", Edges.INDEX, () -> x.told(0, 0));
    Due.refusal("finds(0, 0)", Edges.INDEX, () -> x.finds(0, 0));
    Due.refusal("order(0)", Edges.INDEX, () -> x.order(0));
    Due.refusal("between(0, 0)", Edges.INDEX, () -> x.between(0, 0));
    Due.refusal("narrows(0, 0)", Edges.INDEX, () -> x.narrows(0, 0));
    Due.refusal("tells(0, 0)", Edges.INDEX, () -> x.tells(0, 0));
    Due.is("find()", 0, x::find);
  }

  private static void findWith14() {
    Due.sentence("2: IllegalStateException if there are 14");
    CairnShells x = new CairnShells();
    for (int layer = 0; layer < 14; layer++) {
      Due.is("find() with " + layer, layer, x::find);
    }
    Due.refusal("find() with 14", Edges.STATE, x::find);
    Due.refusal("find() with 14 once more", Edges.STATE, x::find);
    Due.is("layers then", 14, () -> x.count(0));
    Due.refusal("told(14, 0) then", Edges.INDEX, () -> x.told(14, 0));
    // 14 that are one and the same are 14 all the same.
    Due.refusal("find() with 14 of one sort", Edges.STATE, Edges.oneLayer(14)::find);
    Due.is("find() with 13 of one sort", 13, Edges.oneLayer(13)::find);
    Due.is("find() of another one", 0, new CairnShells()::find);
  }

  private static void findIsNew() {
    Due.sentence("2: Returns the number of a new layer");
    CairnShells x = Edges.oneLayer(12);
    for (int kind = 0; kind < 4; kind++) {
      x.sift(11, kind, 99);
    }
    x.hearth(11, 400, 500);
    x.find();
    x.above(12, 0);
    Due.is("find()", 13, x::find);
    int[] due = {0, 9999, 0, 0, 0, 0, 1, -1, 0};
    for (int what = 0; what < due.length; what++) {
      int each = what;
      Due.is("told(13, " + what + ")", due[what], () -> x.told(13, each));
    }
    for (int kind = 0; kind < 4; kind++) {
      int each = kind;
      Due.is("finds(13, " + kind + ")", 0, () -> x.finds(13, each));
    }
    Due.is("order(12)", 12, () -> x.order(12));
    Due.is("order(13)", 13, () -> x.order(13));
  }

  private static void aboveHowMany() {
    Due.sentence("3: Returns to how many layers a is later then");
    CairnShells x = Edges.cairn(14);
    for (int layer = 0; layer < 13; layer++) {
      int each = layer;
      Due.is("above(13, " + layer + ")", layer + 1, () -> x.above(13, each));
    }
    Due.is("above(13, 12) once more", 13, () -> x.above(13, 12));
    CairnShells y = Edges.oneLayer(13);
    y.find();
    Due.is("above(13, 0) of 13 that are the same", 13, () -> y.above(13, 0));
    CairnShells z = Edges.oneLayer(13);
    z.find();
    Due.is("above(5, 13) of 13 that are the same", 1, () -> z.above(5, 13));
    Due.is("above(7, 13) told already of the same", 1, () -> z.above(7, 13));
  }

  private static void aboveNoSuchLayer() {
    Due.sentence("3: IndexOutOfBoundsException if there is no such layer");
    for (int layers : new int[] {1, 2, 13, 14}) {
      CairnShells x = Edges.cairn(layers);
      String of = " of " + layers;
      Edges.index("above(.., 0)" + of, layers, a -> x.above(a, 0));
      Edges.index("above(0, ..)" + of, layers, b -> x.above(0, b));
      Edges.index("above(.., the same)" + of, layers, a -> x.above(a, a));
      Due.is("pairs then", 0, () -> x.count(4));
    }
    CairnShells y = Edges.cairn(2);
    Due.is("above(1, 0)", 1, () -> y.above(1, 0));
    CairnShells z = Edges.cairn(14);
    Due.is("above(0, 13)", 1, () -> z.above(0, 13));
  }

  private static void aboveBothAreTheSame() {
    Due.sentence("3: IllegalStateException if both are the same");
    CairnShells x = Edges.cairn(14);
    Due.refusal("above(0, 0)", Edges.STATE, () -> x.above(0, 0));
    Due.refusal("above(13, 13)", Edges.STATE, () -> x.above(13, 13));
    x.same(0, 1);
    Due.refusal("above(0, 1) told so", Edges.STATE, () -> x.above(0, 1));
    Due.refusal("above(1, 0) told so", Edges.STATE, () -> x.above(1, 0));
    x.same(1, 13);
    Due.refusal("above(0, 13) by way of 1", Edges.STATE, () -> x.above(0, 13));
    Due.refusal("above(13, 0) by way of 1", Edges.STATE, () -> x.above(13, 0));
    Due.is("pairs then", 0, () -> x.count(4));
    Due.is("above(13, 2)", 1, () -> x.above(13, 2));
  }

  private static void aboveTheLaterOne() {
    Due.sentence("3: IllegalStateException if b is later than a");
    CairnShells x = Edges.cairn(5);
    x.above(1, 0);
    Due.refusal("above(0, 1) told so", Edges.STATE, () -> x.above(0, 1));
    x.above(2, 1);
    Due.refusal("above(0, 2) by way of 1", Edges.STATE, () -> x.above(0, 2));
    x.same(3, 2);
    Due.refusal("above(0, 3) by the same as 2", Edges.STATE, () -> x.above(0, 3));
    Due.refusal("above(1, 3) by the same as 2", Edges.STATE, () -> x.above(1, 3));
    x.same(4, 0);
    Due.refusal("above(4, 1) by the same as 0", Edges.STATE, () -> x.above(4, 1));
    Due.refusal("above(4, 3) by the same as 0 and 2", Edges.STATE, () -> x.above(4, 3));
    Due.is("pairs then", 8, () -> x.count(4));
    CairnShells all = Edges.pile(14);
    Due.refusal("above(0, 13) by way of all", Edges.STATE, () -> all.above(0, 13));
    Due.is("above(13, 0) by way of all", 13, () -> all.above(13, 0));
  }

  private static void sameHowMany() {
    Due.sentence("4: Returns how many are the same as a then, with it");
    CairnShells x = Edges.cairn(14);
    Due.is("same(0, 0)", 1, () -> x.same(0, 0));
    for (int layer = 1; layer < 14; layer++) {
      int each = layer;
      Due.is("same(" + layer + ", 0)", layer + 1, () -> x.same(each, 0));
    }
    Due.is("same(13, 1) known already", 14, () -> x.same(13, 1));
    Due.is("same(13, 13)", 14, () -> x.same(13, 13));
    CairnShells y = Edges.cairn(5);
    y.same(0, 1);
    y.same(2, 3);
    Due.is("same(4, 4) beside two pairs", 1, () -> y.same(4, 4));
    Due.is("same(1, 2) of two pairs", 4, () -> y.same(1, 2));
  }

  private static void sameNoSuchLayer() {
    Due.sentence("4: IndexOutOfBoundsException if there is no such layer");
    for (int layers : new int[] {1, 13, 14}) {
      CairnShells x = Edges.cairn(layers);
      String of = " of " + layers;
      Edges.index("same(.., 0)" + of, layers, a -> x.same(a, 0));
      Edges.index("same(0, ..)" + of, layers, b -> x.same(0, b));
      Edges.index("same(.., the same)" + of, layers, a -> x.same(a, a));
      Due.is("sorts then", layers, () -> x.count(5));
    }
    CairnShells y = Edges.cairn(14);
    Due.is("same(13, 0)", 2, () -> y.same(13, 0));
  }

  private static void sameOfOneLater() {
    Due.sentence("4: IllegalStateException if one of them is later than the other one");
    CairnShells x = Edges.cairn(5);
    x.above(1, 0);
    Due.refusal("same(1, 0) told so", Edges.STATE, () -> x.same(1, 0));
    Due.refusal("same(0, 1) told so", Edges.STATE, () -> x.same(0, 1));
    x.above(2, 1);
    Due.refusal("same(2, 0) by way of 1", Edges.STATE, () -> x.same(2, 0));
    Due.refusal("same(0, 2) by way of 1", Edges.STATE, () -> x.same(0, 2));
    x.same(3, 2);
    Due.refusal("same(3, 0) by the same as 2", Edges.STATE, () -> x.same(3, 0));
    Due.refusal("same(0, 3) by the same as 2", Edges.STATE, () -> x.same(0, 3));
    x.same(4, 0);
    Due.refusal("same(4, 1) by the same as 0", Edges.STATE, () -> x.same(4, 1));
    Due.refusal("same(1, 4) by the same as 0", Edges.STATE, () -> x.same(1, 4));
    Due.is("sorts then", 3, () -> x.count(5));
    CairnShells all = Edges.pile(14);
    Due.refusal("same(0, 13) by way of all", Edges.STATE, () -> all.same(0, 13));
    Due.refusal("same(13, 0) by way of all", Edges.STATE, () -> all.same(13, 0));
    CairnShells beside = Edges.cairn(3);
    beside.above(1, 0);
    beside.above(2, 0);
    Due.is("same(1, 2), both over 0", 2, () -> beside.same(1, 2));
  }

  private static void siftHowManyItHad() {
    Due.sentence("5: Returns how many it had");
    CairnShells x = Edges.oneLayer(2);
    Due.is("sift(0, 3, 99) of none", 0, () -> x.sift(0, 3, 99));
    Due.is("sift(0, 3, 99) of 99", 99, () -> x.sift(0, 3, 99));
    Due.is("sift(1, 3, 1) of none itself", 0, () -> x.sift(1, 3, 1));
    Due.is("sift(0, 3, 0) of 99 itself", 99, () -> x.sift(0, 3, 0));
    Due.is("sift(0, 3, 0) of none", 0, () -> x.sift(0, 3, 0));
    Due.is("finds(0, 3) then", 1, () -> x.finds(0, 3));
  }

  private static void siftNoSuchLayer() {
    Due.sentence("5: IndexOutOfBoundsException if there is no such layer");
    for (int layers : new int[] {1, 13, 14}) {
      CairnShells x = Edges.cairn(layers);
      Edges.index("sift(.., 3, 9) of " + layers, layers, layer -> x.sift(layer, 3, 9));
      Due.is("all finds then", 0, () -> x.count(6));
      Due.is("sift of the last one", 0, () -> x.sift(layers - 1, 3, 9));
    }
  }

  private static void siftNoSuchKind() {
    Due.sentence("5: IndexOutOfBoundsException if kind is not 0 to 3");
    for (int layer : new int[] {0, 1, 13}) {
      CairnShells x = Edges.cairn(14);
      Edges.index("sift(" + layer + ", .., 9)", 4, kind -> x.sift(layer, kind, 9));
      Due.is("all finds then", 0, () -> x.count(6));
      Due.is("sift(" + layer + ", 0, 9)", 0, () -> x.sift(layer, 0, 9));
      Due.is("sift(" + layer + ", 3, 8)", 0, () -> x.sift(layer, 3, 8));
      Due.is("all finds at the end", 17, () -> x.count(6));
    }
  }

  private static void siftMany() {
    Due.sentence("5: IllegalArgumentException if many is not 0 to 99");
    for (int kind = 0; kind < 4; kind++) {
      CairnShells x = Edges.cairn(1);
      int each = kind;
      Due.is("sift(0, " + kind + ", 1)", 0, () -> x.sift(0, each, 1));
      Edges.beyond("sift(0, " + kind + ", ..)", Edges.ARGUMENT, 99, many -> x.sift(0, each, many));
      Due.is("sift(0, " + kind + ", 0)", 1, () -> x.sift(0, each, 0));
      Due.is("sift(0, " + kind + ", 99)", 0, () -> x.sift(0, each, 99));
      Due.is("finds then", 99, () -> x.finds(0, each));
    }
  }

  private static void hearthInPlaceOfItsOwn() {
    Due.sentence("6: in the place of the one that it has, if it has one");
    CairnShells x = Edges.cairn(2);
    x.hearth(0, 500, 600);
    x.hearth(0, 400, 700);
    Due.is("told(0, 0)", 400, () -> x.told(0, 0));
    Due.is("told(0, 1)", 700, () -> x.told(0, 1));
    Due.is("hearths", 1, () -> x.count(3));
    Due.is("clear(0)", 400, () -> x.clear(0));
    Due.refusal("clear(0) of that ahead of it", Edges.STATE, () -> x.clear(0));
    x.same(0, 1);
    x.hearth(0, 500, 600);
    x.hearth(1, 400, 700);
    Due.is("told(0, 0) beside one in the same", 500, () -> x.told(0, 0));
    Due.is("hearths in the same", 2, () -> x.count(3));
  }

  private static void hearthFirstYearThen() {
    Due.sentence("6: Returns the first year of the layer then");
    CairnShells x = Edges.pile(3);
    Due.is("hearth(0, 300, 400)", 300, () -> x.hearth(0, 300, 400));
    Due.is("hearth(1, 299, 400) over it", 300, () -> x.hearth(1, 299, 400));
    Due.is("hearth(1, 300, 400) over it", 300, () -> x.hearth(1, 300, 400));
    Due.is("hearth(1, 301, 400) over it", 301, () -> x.hearth(1, 301, 400));
    Due.is("hearth(1, 0, 0) over it, which makes it doubtful", 300, () -> x.hearth(1, 0, 0));
    Due.is("hearth(0, 9999, 9999)", 9999, () -> x.hearth(0, 9999, 9999));
    Due.is("hearth(2, 0, 9999) over both", 9999, () -> x.hearth(2, 0, 9999));
    Due.is("hearth(0, 0, 0) under both", 0, () -> x.hearth(0, 0, 0));
  }

  private static void hearthNoSuchLayer() {
    Due.sentence("6: IndexOutOfBoundsException if there is no such layer");
    for (int layers : new int[] {1, 13, 14}) {
      CairnShells x = Edges.cairn(layers);
      Edges.index("hearth(.., 5, 6) of " + layers, layers, layer -> x.hearth(layer, 5, 6));
      Due.is("hearths then", 0, () -> x.count(3));
      Due.is("hearth of the last one", 5, () -> x.hearth(layers - 1, 5, 6));
    }
  }

  private static void hearthFrom() {
    Due.sentence("6: IllegalArgumentException if from is less than 0");
    CairnShells x = Edges.cairn(1);
    Due.refusal("hearth(0, -1, 0)", Edges.ARGUMENT, () -> x.hearth(0, -1, 0));
    Due.refusal("hearth(0, -1, -1)", Edges.ARGUMENT, () -> x.hearth(0, -1, -1));
    Due.refusal("hearth(0, -1, 9999)", Edges.ARGUMENT, () -> x.hearth(0, -1, 9999));
    Due.refusal("hearth(0, least, 9999)", Edges.ARGUMENT,
        () -> x.hearth(0, Integer.MIN_VALUE, 9999));
    Due.is("hearths then", 0, () -> x.count(3));
    Due.is("hearth(0, 0, 9999)", 0, () -> x.hearth(0, 0, 9999));
  }

  private static void hearthTo() {
    Due.sentence("6: IllegalArgumentException if to is greater than 9999");
    CairnShells x = Edges.cairn(1);
    Due.refusal("hearth(0, 9999, 10000)", Edges.ARGUMENT, () -> x.hearth(0, 9999, 10000));
    Due.refusal("hearth(0, 10000, 10000)", Edges.ARGUMENT, () -> x.hearth(0, 10000, 10000));
    Due.refusal("hearth(0, 0, 10000)", Edges.ARGUMENT, () -> x.hearth(0, 0, 10000));
    Due.refusal("hearth(0, 0, greatest)", Edges.ARGUMENT,
        () -> x.hearth(0, 0, Integer.MAX_VALUE));
    Due.is("hearths then", 0, () -> x.count(3));
    Due.is("hearth(0, 9999, 9999)", 9999, () -> x.hearth(0, 9999, 9999));
  }

  private static void hearthFromAndTo() {
    Due.sentence("6: IllegalArgumentException if from is greater than to");
    CairnShells x = Edges.cairn(1);
    Due.refusal("hearth(0, 1, 0)", Edges.ARGUMENT, () -> x.hearth(0, 1, 0));
    Due.refusal("hearth(0, 9999, 9998)", Edges.ARGUMENT, () -> x.hearth(0, 9999, 9998));
    Due.refusal("hearth(0, 9999, 0)", Edges.ARGUMENT, () -> x.hearth(0, 9999, 0));
    Due.refusal("hearth(0, 0, -1)", Edges.ARGUMENT, () -> x.hearth(0, 0, -1));
    Due.refusal("hearth(0, 10000, 9999)", Edges.ARGUMENT, () -> x.hearth(0, 10000, 9999));
    Due.refusal("hearth(0, greatest, least)", Edges.ARGUMENT,
        () -> x.hearth(0, Integer.MAX_VALUE, Integer.MIN_VALUE));
    Due.is("hearths then", 0, () -> x.count(3));
    Due.is("hearth(0, 1, 1)", 1, () -> x.hearth(0, 1, 1));
    Due.is("hearth(0, 0, 1)", 0, () -> x.hearth(0, 0, 1));
  }

  private static void clearFirstYear() {
    Due.sentence("7: Returns the first year of that hearth");
    CairnShells x = Edges.pile(2);
    x.hearth(0, 9999, 9999);
    x.hearth(1, 0, 9999);
    Due.is("clear(1), whose layer is from 9999", 0, () -> x.clear(1));
    Due.is("clear(0)", 9999, () -> x.clear(0));
    Due.is("hearths then", 0, () -> x.count(3));
    Due.is("told(0, 0) then", 0, () -> x.told(0, 0));
    Due.is("told(0, 1) then", 9999, () -> x.told(0, 1));
  }

  private static void clearNoSuchLayer() {
    Due.sentence("7: IndexOutOfBoundsException if there is no such layer");
    for (int layers : new int[] {1, 13, 14}) {
      CairnShells x = Edges.cairn(layers);
      for (int layer = 0; layer < layers; layer++) {
        x.hearth(layer, 5, 6);
      }
      Edges.index("clear(..) of " + layers, layers, x::clear);
      Due.is("hearths then", layers, () -> x.count(3));
      Due.is("clear of the last one", 5, () -> x.clear(layers - 1));
    }
  }

  private static void clearOfNone() {
    Due.sentence("7: IllegalStateException if it has none");
    CairnShells x = Edges.pile(3);
    x.find();
    x.same(3, 1);
    for (int layer = 0; layer < 4; layer++) {
      int each = layer;
      Due.refusal("clear(" + layer + ") at first", Edges.STATE, () -> x.clear(each));
    }
    x.hearth(1, 0, 9999);
    Due.refusal("clear(0) under one", Edges.STATE, () -> x.clear(0));
    Due.refusal("clear(2) over one", Edges.STATE, () -> x.clear(2));
    Due.refusal("clear(3) with one in the same", Edges.STATE, () -> x.clear(3));
    Due.is("clear(1) of 0 to 9999", 0, () -> x.clear(1));
    Due.refusal("clear(1) once more", Edges.STATE, () -> x.clear(1));
  }
}
