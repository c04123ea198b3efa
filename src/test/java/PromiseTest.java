/** Each promise of the document by itself: ordinary inputs, the named edges, and wrong inputs. */
public final class PromiseTest {
  private static final int[] OUTSIDE = {-1, Integer.MIN_VALUE, Integer.MAX_VALUE};

  public static void main(String[] args) {
    promise1NewObject();
    promise2Find();
    promise3Above();
    promise3AboveBySame();
    promise4Same();
    promise4SameBetweenOthers();
    promise5Sift();
    promise6Hearth();
    promise7Clear();
    promise8Later();
    promise9ToldYears();
    promise9ToldPlaces();
    promise9ToldSeason();
    promise9ToldOwnHearth();
    promise10Finds();
    promise11Order();
    promise12Between();
    promise13Count();
    promise14Blame();
    promise15Narrows();
    promise15NarrowsAndDoubt();
    promise16Tells();
    promise17Mean();
    promise18Digest();
    refusalsChangeNothing();
    questionsChangeNothing();
    Due.end("PromiseTest");
  }

  private static void promise1NewObject() {
    CairnShells x = new CairnShells();
    for (int what = 0; what <= 6; what++) {
      int counted = what;
      Due.is("new: count(" + what + ")", 0, () -> x.count(counted));
    }
    Due.refusal("new: told(0, 0)", Edges.INDEX, () -> x.told(0, 0));
    CairnShells other = Edges.cairn(3);
    Due.is("new: beside another one", 0, () -> x.count(0));
    Due.is("new: another one", 3, () -> other.count(0));
  }

  private static void promise2Find() {
    CairnShells x = new CairnShells();
    for (int layer = 0; layer < 14; layer++) {
      Due.is("find()", layer, x::find);
    }
    Due.refusal("find() with 14", Edges.STATE, x::find);
    Due.refusal("find() with 14 again", Edges.STATE, x::find);
    Due.is("find: count(0)", 14, () -> x.count(0));
    CairnShells y = Edges.cairn(1);
    y.sift(0, 1, 5);
    y.hearth(0, 10, 20);
    y.find();
    Due.is("find: new layer's first year", 0, () -> y.told(1, 0));
    Due.is("find: new layer's last year", 9999, () -> y.told(1, 1));
    Due.is("find: new layer's cockles", 0, () -> y.finds(1, 1));
    Due.is("find: new layer's phase", 0, () -> y.told(1, 3));
    Due.is("find: new layer's hearth", 0, () -> y.told(1, 8));
    Due.is("find: old layer's cockles", 5, () -> y.finds(0, 1));
  }

  private static void promise3Above() {
    CairnShells x = Edges.cairn(5);
    Due.is("above(1, 0)", 1, () -> x.above(1, 0));
    Due.is("above(2, 1)", 2, () -> x.above(2, 1));
    Due.is("above(2, 1) again", 2, () -> x.above(2, 1));
    Due.is("above(2, 0) known already", 2, () -> x.above(2, 0));
    Due.is("above(4, 3)", 1, () -> x.above(4, 3));
    Due.is("above(3, 2)", 3, () -> x.above(3, 2));
    Due.is("above: what lies above rises too", 4, () -> x.told(4, 4));
    Due.refusal("above(0, 0)", Edges.STATE, () -> x.above(0, 0));
    Due.refusal("above(0, 1)", Edges.STATE, () -> x.above(0, 1));
    Due.refusal("above(0, 4)", Edges.STATE, () -> x.above(0, 4));
    Due.refusal("above(5, 5) is no layer", Edges.INDEX, () -> x.above(5, 5));
    for (int outside : OUTSIDE) {
      Due.refusal("above(" + outside + ", 0)", Edges.INDEX, () -> x.above(outside, 0));
      Due.refusal("above(0, " + outside + ")", Edges.INDEX, () -> x.above(0, outside));
    }
  }

  private static void promise3AboveBySame() {
    CairnShells x = Edges.cairn(6);
    x.same(0, 1);
    x.same(2, 3);
    Due.refusal("above(0, 1) which are the same", Edges.STATE, () -> x.above(0, 1));
    Due.is("above(1, 2)", 2, () -> x.above(1, 2));
    Due.is("above: later(0, 3)", true, () -> x.later(0, 3));
    Due.refusal("above(3, 0)", Edges.STATE, () -> x.above(3, 0));
    Due.is("above(4, 0)", 4, () -> x.above(4, 0));
    Due.is("above(3, 5)", 1, () -> x.above(3, 5));
    Due.is("above: told(4, 4)", 5, () -> x.told(4, 4));
    Due.refusal("above(5, 4)", Edges.STATE, () -> x.above(5, 4));
  }

  private static void promise4Same() {
    CairnShells x = Edges.cairn(5);
    Due.is("same(2, 2)", 1, () -> x.same(2, 2));
    Due.is("same(0, 1)", 2, () -> x.same(0, 1));
    Due.is("same(1, 0) again", 2, () -> x.same(1, 0));
    Due.is("same(2, 3)", 2, () -> x.same(2, 3));
    Due.is("same(3, 0)", 4, () -> x.same(3, 0));
    for (int layer = 0; layer < 4; layer++) {
      int each = layer;
      Due.is("same: told(" + layer + ", 6)", 4, () -> x.told(each, 6));
    }
    Due.is("same: told(4, 6)", 1, () -> x.told(4, 6));
    x.above(4, 2);
    Due.refusal("same(4, 0)", Edges.STATE, () -> x.same(4, 0));
    Due.refusal("same(1, 4)", Edges.STATE, () -> x.same(1, 4));
    Due.refusal("same(5, 5) is no layer", Edges.INDEX, () -> x.same(5, 5));
    for (int outside : OUTSIDE) {
      Due.refusal("same(" + outside + ", 0)", Edges.INDEX, () -> x.same(outside, 0));
      Due.refusal("same(0, " + outside + ")", Edges.INDEX, () -> x.same(0, outside));
    }
  }

  /** Two piles, 2 over 1 over 0 and 5 over 4 over 3, whose middle layers turn out to be the same. */
  private static void promise4SameBetweenOthers() {
    CairnShells x = Edges.cairn(6);
    x.above(1, 0);
    x.above(2, 1);
    x.above(4, 3);
    x.above(5, 4);
    Due.is("same(1, 4)", 2, () -> x.same(1, 4));
    Due.is("same: later(2, 3)", true, () -> x.later(2, 3));
    Due.is("same: later(5, 0)", true, () -> x.later(5, 0));
    Due.is("same: later(2, 4)", true, () -> x.later(2, 4));
    Due.is("same: later(1, 3)", true, () -> x.later(1, 3));
    Due.is("same: later(1, 4)", false, () -> x.later(1, 4));
    Due.is("same: later(2, 5)", false, () -> x.later(2, 5));
    Due.is("same: count(4)", 12, () -> x.count(4));
    Due.refusal("same(0, 5) by way of 1 and 4", Edges.STATE, () -> x.same(0, 5));
    Due.is("same(2, 5)", 2, () -> x.same(2, 5));
    Due.is("same(0, 3)", 2, () -> x.same(0, 3));
    Due.is("same: count(5)", 3, () -> x.count(5));
  }

  private static void promise5Sift() {
    CairnShells x = Edges.cairn(2);
    for (int kind = 0; kind < 4; kind++) {
      int each = kind;
      Due.is("sift(0, " + kind + ", 99)", 0, () -> x.sift(0, each, 99));
      Due.is("sift(0, " + kind + ", 0)", 99, () -> x.sift(0, each, 0));
      Due.is("sift(0, " + kind + ", 7)", 0, () -> x.sift(0, each, 7 + each));
    }
    Due.is("sift: finds(0, 2)", 9, () -> x.finds(0, 2));
    Due.is("sift: finds(1, 2)", 0, () -> x.finds(1, 2));
    x.same(0, 1);
    Due.is("sift(1, 2, 4) tells its own alone", 0, () -> x.sift(1, 2, 4));
    Due.is("sift(0, 2, 9) tells its own alone", 9, () -> x.sift(0, 2, 9));
    Due.refusal("sift(0, 0, 100)", Edges.ARGUMENT, () -> x.sift(0, 0, 100));
    Due.refusal("sift(0, 4, 0)", Edges.INDEX, () -> x.sift(0, 4, 0));
    Due.refusal("sift(0, 4, 100)", Edges.INDEX, () -> x.sift(0, 4, 100));
    Due.refusal("sift(2, 0, 100)", Edges.INDEX, () -> x.sift(2, 0, 100));
    for (int outside : OUTSIDE) {
      Due.refusal("sift(" + outside + ", 0, 0)", Edges.INDEX, () -> x.sift(outside, 0, 0));
      Due.refusal("sift(0, " + outside + ", 0)", Edges.INDEX, () -> x.sift(0, outside, 0));
      Due.refusal("sift(0, 0, " + outside + ")", Edges.ARGUMENT, () -> x.sift(0, 0, outside));
    }
  }

  private static void promise6Hearth() {
    CairnShells x = Edges.pile(3);
    Due.is("hearth(1, 500, 600)", 500, () -> x.hearth(1, 500, 600));
    Due.is("hearth(2, 400, 700) tells the layer's year", 500, () -> x.hearth(2, 400, 700));
    Due.is("hearth(0, 100, 650)", 100, () -> x.hearth(0, 100, 650));
    Due.is("hearth(1, 300, 300) in place of the other", 300, () -> x.hearth(1, 300, 300));
    Due.is("hearth: told(1, 1)", 300, () -> x.told(1, 1));
    Due.is("hearth: told(2, 0)", 400, () -> x.told(2, 0));
    Due.is("hearth: count(3)", 3, () -> x.count(3));
    Due.is("hearth(0, 0, 9999)", 0, () -> x.hearth(0, 0, 9999));
    Due.is("hearth(0, 9999, 9999)", 9999, () -> x.hearth(0, 9999, 9999));
    Due.is("hearth(0, 0, 0)", 0, () -> x.hearth(0, 0, 0));
    Due.refusal("hearth(0, -1, 5)", Edges.ARGUMENT, () -> x.hearth(0, -1, 5));
    Due.refusal("hearth(0, 5, 10000)", Edges.ARGUMENT, () -> x.hearth(0, 5, 10000));
    Due.refusal("hearth(0, 5, 4)", Edges.ARGUMENT, () -> x.hearth(0, 5, 4));
    Due.refusal("hearth(0, 0, -1)", Edges.ARGUMENT, () -> x.hearth(0, 0, -1));
    Due.refusal("hearth(3, 5, 4)", Edges.INDEX, () -> x.hearth(3, 5, 4));
    for (int outside : OUTSIDE) {
      Due.refusal("hearth(" + outside + ", 0, 0)", Edges.INDEX, () -> x.hearth(outside, 0, 0));
      Due.refusal("hearth(0, " + outside + ", 0)", Edges.ARGUMENT, () -> x.hearth(0, outside, 0));
      Due.refusal("hearth(0, 0, " + outside + ")", Edges.ARGUMENT, () -> x.hearth(0, 0, outside));
    }
  }

  private static void promise7Clear() {
    CairnShells x = Edges.pile(2);
    Due.refusal("clear(0) without one", Edges.STATE, () -> x.clear(0));
    x.hearth(0, 800, 900);
    x.hearth(1, 700, 950);
    Due.is("clear(1) tells its hearth's year", 700, () -> x.clear(1));
    Due.is("clear: told(0, 1)", 900, () -> x.told(0, 1));
    Due.is("clear: told(1, 0)", 800, () -> x.told(1, 0));
    Due.refusal("clear(1) again", Edges.STATE, () -> x.clear(1));
    Due.is("clear(0)", 800, () -> x.clear(0));
    Due.is("clear: told(1, 0) without any", 0, () -> x.told(1, 0));
    Due.is("clear: told(0, 1) without any", 9999, () -> x.told(0, 1));
    Due.is("clear: count(3)", 0, () -> x.count(3));
    x.hearth(0, 0, 9999);
    Due.is("clear(0) of all years", 0, () -> x.clear(0));
    Due.refusal("clear(2)", Edges.INDEX, () -> x.clear(2));
    for (int outside : OUTSIDE) {
      Due.refusal("clear(" + outside + ")", Edges.INDEX, () -> x.clear(outside));
    }
  }

  private static void promise8Later() {
    CairnShells x = Edges.pile(3);
    x.find();
    x.find();
    x.same(1, 3);
    Due.is("later(1, 0)", true, () -> x.later(1, 0));
    Due.is("later(2, 0) by way of 1", true, () -> x.later(2, 0));
    Due.is("later(0, 2)", false, () -> x.later(0, 2));
    Due.is("later(3, 0) by the same", true, () -> x.later(3, 0));
    Due.is("later(2, 3) by the same", true, () -> x.later(2, 3));
    Due.is("later(1, 3)", false, () -> x.later(1, 3));
    Due.is("later(1, 1)", false, () -> x.later(1, 1));
    Due.is("later(4, 0)", false, () -> x.later(4, 0));
    Due.is("later(0, 4)", false, () -> x.later(0, 4));
    Due.refusal("later(5, 0)", Edges.INDEX, () -> x.later(5, 0));
    Due.refusal("later(0, 5)", Edges.INDEX, () -> x.later(0, 5));
    for (int outside : OUTSIDE) {
      Due.refusal("later(" + outside + ", 0)", Edges.INDEX, () -> x.later(outside, 0));
      Due.refusal("later(0, " + outside + ")", Edges.INDEX, () -> x.later(0, outside));
    }
  }

  private static void promise9ToldYears() {
    CairnShells x = Edges.pile(3);
    x.find();
    x.same(1, 3);
    Due.is("told(0, 0) without any", 0, () -> x.told(0, 0));
    Due.is("told(0, 1) without any", 9999, () -> x.told(0, 1));
    x.hearth(0, 1000, 1500);
    x.hearth(3, 1200, 1400);
    x.hearth(2, 1100, 1400);
    int[][] due = {{1000, 1400, 0}, {1200, 1400, 0}, {1200, 1400, 0}, {1200, 1400, 0}};
    dueYears(x, due);
    x.hearth(2, 1100, 1200);
    dueYears(x, new int[][] {{1000, 1200, 0}, {1200, 1200, 0}, {1200, 1200, 0}, {1200, 1200, 0}});
    x.hearth(2, 1100, 1199);
    dueYears(x, new int[][] {{1000, 1199, 0}, {1200, 1199, 1}, {1200, 1199, 1}, {1200, 1199, 1}});
    Due.refusal("told(4, 0)", Edges.INDEX, () -> x.told(4, 0));
    Due.refusal("told(0, 9)", Edges.INDEX, () -> x.told(0, 9));
    for (int outside : OUTSIDE) {
      Due.refusal("told(" + outside + ", 0)", Edges.INDEX, () -> x.told(outside, 0));
      Due.refusal("told(0, " + outside + ")", Edges.INDEX, () -> x.told(0, outside));
    }
  }

  private static void dueYears(CairnShells x, int[][] due) {
    for (int layer = 0; layer < due.length; layer++) {
      int each = layer;
      Due.is("told(" + layer + ", 0)", due[layer][0], () -> x.told(each, 0));
      Due.is("told(" + layer + ", 1)", due[layer][1], () -> x.told(each, 1));
      Due.is("told(" + layer + ", 2)", due[layer][2], () -> x.told(each, 2));
    }
  }

  /** 3 above 1 above 0, 3 above 2, 4 the same as 2, 5 by itself. */
  private static void promise9ToldPlaces() {
    CairnShells x = Edges.cairn(6);
    x.above(1, 0);
    x.above(3, 1);
    x.above(3, 2);
    x.same(2, 4);
    // Of each layer its phase, those below, those above, and those that are the same.
    int[][] due = {{0, 0, 2, 1}, {1, 1, 1, 1}, {0, 0, 1, 2}, {2, 4, 0, 1}, {0, 0, 1, 2}, {0, 0, 0, 1}};
    for (int layer = 0; layer < 6; layer++) {
      for (int what = 3; what <= 6; what++) {
        int each = layer;
        int asked = what;
        Due.is("told(" + layer + ", " + what + ")", due[layer][what - 3], () -> x.told(each, asked));
      }
    }
  }

  private static void promise9ToldSeason() {
    dueSeason(-1, 0, 0, 0, 0);
    dueSeason(0, 1, 0, 0, 0);
    dueSeason(1, 0, 1, 0, 0);
    dueSeason(2, 0, 0, 1, 0);
    dueSeason(3, 0, 0, 0, 1);
    // Winter 9 + 2 and autumn 8 + 3: as many, so that the first one is told.
    dueSeason(0, 3, 0, 0, 2);
    dueSeason(3, 2, 0, 0, 2);
    // Spring 6 + 1 and summer 6 + 3, then spring 6 + 1 and summer 4 + 3.
    dueSeason(2, 0, 3, 3, 0);
    dueSeason(1, 0, 3, 2, 0);
    // Spring 28 + 4 and summer 18 + 14: half of 9 is cut, so that the first one is told.
    dueSeason(1, 0, 14, 9, 0);
    dueSeason(2, 0, 13, 9, 0);
    // Winter 15 and spring 14 + 1 (half of 3 is cut).
    dueSeason(0, 5, 7, 3, 0);
    // Winter 3 and summer 2 + 1.
    dueSeason(0, 1, 1, 1, 0);
    // Summer 4 and autumn 4.
    dueSeason(2, 0, 0, 2, 1);
    dueSeason(3, 0, 0, 99, 99);
    CairnShells x = Edges.cairn(3);
    x.sift(0, 2, 1);
    x.sift(1, 2, 1);
    x.sift(1, 1, 2);
    Due.is("season of 1: spring 4, summer 4", 1, () -> x.told(1, 7));
    x.same(0, 1);
    Due.is("season of both: spring 5, summer 6", 2, () -> x.told(1, 7));
    Due.is("season of both", 2, () -> x.told(0, 7));
    Due.is("season of the third", -1, () -> x.told(2, 7));
    x.sift(1, 1, 3);
    Due.is("season of both: spring 6 + 1, summer 4 + 3 (half of 1 + 1 is 1)", 1, () -> x.told(0, 7));
  }

  private static void dueSeason(int due, int mussels, int cockles, int bones, int teeth) {
    CairnShells x = Edges.cairn(1);
    x.sift(0, 0, mussels);
    x.sift(0, 1, cockles);
    x.sift(0, 2, bones);
    x.sift(0, 3, teeth);
    String call = "season of " + mussels + ", " + cockles + ", " + bones + ", " + teeth;
    Due.is(call, due, () -> x.told(0, 7));
  }

  private static void promise9ToldOwnHearth() {
    CairnShells x = Edges.pile(2);
    x.find();
    x.same(1, 2);
    x.hearth(1, 0, 9999);
    Due.is("told(0, 8)", 0, () -> x.told(0, 8));
    Due.is("told(1, 8)", 1, () -> x.told(1, 8));
    Due.is("told(2, 8) has none itself", 0, () -> x.told(2, 8));
    x.clear(1);
    Due.is("told(1, 8) cleared", 0, () -> x.told(1, 8));
  }

  private static void promise10Finds() {
    CairnShells x = Edges.cairn(4);
    for (int layer = 0; layer < 4; layer++) {
      for (int kind = 0; kind < 4; kind++) {
        x.sift(layer, kind, 10 * layer + kind);
      }
    }
    x.same(0, 2);
    x.same(2, 3);
    for (int kind = 0; kind < 4; kind++) {
      int each = kind;
      Due.is("finds(1, " + kind + ")", 10 + kind, () -> x.finds(1, each));
      Due.is("finds(0, " + kind + ")", 50 + 3 * kind, () -> x.finds(0, each));
      Due.is("finds(3, " + kind + ")", 50 + 3 * kind, () -> x.finds(3, each));
    }
    Due.refusal("finds(4, 0)", Edges.INDEX, () -> x.finds(4, 0));
    Due.refusal("finds(0, 4)", Edges.INDEX, () -> x.finds(0, 4));
    for (int outside : OUTSIDE) {
      Due.refusal("finds(" + outside + ", 0)", Edges.INDEX, () -> x.finds(outside, 0));
      Due.refusal("finds(0, " + outside + ")", Edges.INDEX, () -> x.finds(0, outside));
    }
    CairnShells all = Edges.cairn(14);
    for (int layer = 0; layer < 14; layer++) {
      all.sift(layer, 3, 99);
      all.same(0, layer);
    }
    Due.is("finds of 14", 14 * 99, () -> all.finds(13, 3));
  }

  private static void promise11Order() {
    CairnShells x = Edges.cairn(5);
    dueOrder(x, 0, 1, 2, 3, 4);
    x.above(0, 3);
    dueOrder(x, 1, 2, 3, 0, 4);
    x.above(1, 4);
    dueOrder(x, 2, 3, 0, 4, 1);
    x.above(3, 1);
    dueOrder(x, 2, 4, 1, 3, 0);
    x.same(2, 0);
    dueOrder(x, 4, 1, 3, 0, 2);
    x.find();
    dueOrder(x, 4, 1, 3, 0, 2, 5);
    Due.refusal("order(6)", Edges.INDEX, () -> x.order(6));
    Due.refusal("order(14)", Edges.INDEX, () -> x.order(14));
    for (int outside : OUTSIDE) {
      Due.refusal("order(" + outside + ")", Edges.INDEX, () -> x.order(outside));
    }
    Due.refusal("order(0) without layers", Edges.INDEX, () -> new CairnShells().order(0));
  }

  private static void dueOrder(CairnShells x, int... due) {
    for (int place = 0; place < due.length; place++) {
      int each = place;
      Due.is("order(" + place + ")", due[place], () -> x.order(each));
    }
  }

  private static void promise12Between() {
    CairnShells x = Edges.pile(4);
    x.find();
    x.find();
    x.same(4, 2);
    Due.is("between(1, 0)", 0, () -> x.between(1, 0));
    Due.is("between(3, 0)", 3, () -> x.between(3, 0));
    Due.is("between(0, 3)", 3, () -> x.between(0, 3));
    Due.is("between(0, 4)", 1, () -> x.between(0, 4));
    Due.is("between(2, 4) the same", -1, () -> x.between(2, 4));
    Due.is("between(0, 0)", -1, () -> x.between(0, 0));
    Due.is("between(5, 0)", -1, () -> x.between(5, 0));
    x.above(5, 0);
    Due.is("between(3, 0) with 5 beside", 3, () -> x.between(3, 0));
    Due.is("between(3, 5)", -1, () -> x.between(3, 5));
    Due.refusal("between(6, 0)", Edges.INDEX, () -> x.between(6, 0));
    Due.refusal("between(0, 6)", Edges.INDEX, () -> x.between(0, 6));
    for (int outside : OUTSIDE) {
      Due.refusal("between(" + outside + ", 0)", Edges.INDEX, () -> x.between(outside, 0));
      Due.refusal("between(0, " + outside + ")", Edges.INDEX, () -> x.between(0, outside));
    }
  }

  private static void promise13Count() {
    CairnShells x = Edges.cairn(5);
    dueCounts(x, 5, 1, 0, 0, 0, 5, 0);
    x.above(2, 0);
    x.above(3, 2);
    x.same(0, 1);
    dueCounts(x, 5, 3, 0, 0, 5, 4, 0);
    x.hearth(1, 100, 200);
    x.hearth(3, 50, 60);
    dueCounts(x, 5, 3, 4, 2, 5, 4, 0);
    x.hearth(3, 50, 100);
    dueCounts(x, 5, 3, 0, 2, 5, 4, 0);
    x.sift(0, 0, 3);
    x.sift(1, 0, 4);
    x.sift(4, 3, 90);
    dueCounts(x, 5, 3, 0, 2, 5, 4, 97);
    Due.refusal("count(7)", Edges.INDEX, () -> x.count(7));
    for (int outside : OUTSIDE) {
      Due.refusal("count(" + outside + ")", Edges.INDEX, () -> x.count(outside));
    }
  }

  private static void dueCounts(CairnShells x, int... due) {
    for (int what = 0; what < due.length; what++) {
      int each = what;
      Due.is("count(" + what + ")", due[what], () -> x.count(each));
    }
  }

  private static void promise14Blame() {
    CairnShells x = Edges.pile(4);
    Due.is("blame() without hearths", -1, x::blame);
    x.hearth(0, 100, 200);
    x.hearth(1, 110, 210);
    Due.is("blame() with none doubtful", -1, x::blame);
    x.hearth(3, 50, 60);
    // 0 to 3 are doubtful; 1 to 3 would be without 0, none without 3.
    Due.is("blame()", 3, x::blame);
    x.hearth(2, 55, 62);
    // Without 0 the other three are left; without any other one all four are.
    Due.is("blame() of one that mends just one", 0, x::blame);
    Due.is("blame: count(2) as before", 4, () -> x.count(2));
    Due.is("blame: count(3) as before", 4, () -> x.count(3));
    Due.is("blame() of several", 0, () -> blameOfTwoPairs());
    Due.is("blame() with none fewer", -1, () -> blameOfNoneAlone());
    Due.is("blame() of two that are the same", 0, () -> blameOfTheSame());
    Due.is("blame() without layers", -1, () -> new CairnShells().blame());
  }

  /** 1 above 0 and 3 above 2 contradict each other alike: each of the four leaves two. */
  private static int blameOfTwoPairs() {
    CairnShells x = Edges.cairn(4);
    x.above(1, 0);
    x.above(3, 2);
    x.hearth(0, 500, 600);
    x.hearth(1, 300, 400);
    x.hearth(2, 500, 600);
    x.hearth(3, 300, 400);
    return x.blame();
  }

  /** Three that are the same: whichever goes, the others still contradict each other. */
  private static int blameOfNoneAlone() {
    CairnShells x = Edges.cairn(3);
    for (int layer = 0; layer < 3; layer++) {
      x.same(0, layer);
      x.hearth(layer, 100 * layer, 100 * layer + 50);
    }
    return x.blame();
  }

  private static int blameOfTheSame() {
    CairnShells x = Edges.cairn(3);
    x.same(0, 2);
    x.hearth(0, 10, 20);
    x.hearth(2, 30, 40);
    return x.blame();
  }

  private static void promise15Narrows() {
    CairnShells x = Edges.pile(3);
    Due.is("narrows(1, 100)", 9999 + 9899 + 100, () -> x.narrows(1, 100));
    Due.is("narrows(1, 0)", 9999 + 9999, () -> x.narrows(1, 0));
    Due.is("narrows(1, 9999)", 9999 + 9999, () -> x.narrows(1, 9999));
    x.hearth(1, 400, 500);
    // Now 0: 0 to 500, 1: 400 to 500, 2: 400 to 9999.
    Due.is("narrows(1, 450)", 50 + 100 + 50, () -> x.narrows(1, 450));
    Due.is("narrows(1, 300) in place of its own", 200 + 100 - 100, () -> x.narrows(1, 300));
    x.hearth(1, 400, 400);
    Due.is("narrows(1, 500) less narrowly below", -100 + 0 + 100, () -> x.narrows(1, 500));
    Due.is("narrows(1, 400) as it is", 0, () -> x.narrows(1, 400));
    x.clear(1);
    x.hearth(0, 400, 400);
    // Now 0: 400, 1 and 2: 400 to 9999; in its place 0: 300, 1 and 2: 300 to 9999.
    Due.is("narrows(0, 300) less than 0", -200, () -> x.narrows(0, 300));
    Due.is("narrows: told(0, 0) as before", 400, () -> x.told(0, 0));
    Due.is("narrows: count(3) as before", 1, () -> x.count(3));
    Due.refusal("narrows(0, 10000)", Edges.ARGUMENT, () -> x.narrows(0, 10000));
    Due.refusal("narrows(3, 0)", Edges.INDEX, () -> x.narrows(3, 0));
    Due.refusal("narrows(3, 10000)", Edges.INDEX, () -> x.narrows(3, 10000));
    for (int outside : OUTSIDE) {
      Due.refusal("narrows(" + outside + ", 0)", Edges.INDEX, () -> x.narrows(outside, 0));
      Due.refusal("narrows(0, " + outside + ")", Edges.ARGUMENT, () -> x.narrows(0, outside));
    }
  }

  /** 2 above 1 above 0; a layer counts only if it is not doubtful, neither now nor then. */
  private static void promise15NarrowsAndDoubt() {
    CairnShells x = Edges.pile(3);
    x.hearth(0, 500, 600);
    x.hearth(2, 550, 700);
    // 0: 500 to 600, 1: 500 to 700, 2: 550 to 700; with a hearth of 450 in 1: 0: 500 to 450 and
    // 1: 500 to 450 are doubtful, 2: 550 to 700 is as it was.
    Due.is("narrows(1, 450)", 0, () -> x.narrows(1, 450));
    // With 650 in 1: 0: 500 to 600, 1: 650, 2: 650 to 700.
    Due.is("narrows(1, 650)", 0 + 200 + 100, () -> x.narrows(1, 650));
    x.hearth(2, 400, 450);
    // Now all contradict: nothing is counted, also not where the doubt would end.
    Due.is("narrows(2, 800) ends doubt", 0, () -> x.narrows(2, 800));
    x.find();
    Due.is("narrows(3, 700) of one by itself", 9999, () -> x.narrows(3, 700));
  }

  private static void promise16Tells() {
    CairnShells x = Edges.cairn(6);
    x.above(1, 0);
    x.above(3, 2);
    x.same(1, 4);
    Due.is("tells(2, 1): 2 and 3 over 0, 1 and 4", 6, () -> x.tells(2, 1));
    Due.is("tells(0, 3)", 3 * 2, () -> x.tells(0, 3));
    Due.is("tells(3, 0)", 1, () -> x.tells(3, 0));
    Due.is("tells(1, 0) known already", 0, () -> x.tells(1, 0));
    Due.is("tells(4, 5)", 2, () -> x.tells(4, 5));
    Due.is("tells(0, 1)", -1, () -> x.tells(0, 1));
    Due.is("tells(0, 4)", -1, () -> x.tells(0, 4));
    Due.is("tells(1, 4) the same", -1, () -> x.tells(1, 4));
    Due.is("tells(5, 5)", -1, () -> x.tells(5, 5));
    Due.is("tells: count(4) as before", 3, () -> x.count(4));
    Due.refusal("tells(6, 0)", Edges.INDEX, () -> x.tells(6, 0));
    Due.refusal("tells(0, 6)", Edges.INDEX, () -> x.tells(0, 6));
    for (int outside : OUTSIDE) {
      Due.refusal("tells(" + outside + ", 0)", Edges.INDEX, () -> x.tells(outside, 0));
      Due.refusal("tells(0, " + outside + ")", Edges.INDEX, () -> x.tells(0, outside));
    }
  }

  private static void promise17Mean() {
    Due.is("mean() without any", 0.0, () -> new CairnShells().mean());
    CairnShells x = Edges.cairn(3);
    Due.is("mean() of the phase 0", 0.0, x::mean);
    x.above(1, 0);
    Due.is("mean() of 0, 1, 0", 1.0 / 3.0, x::mean);
    x.above(2, 1);
    Due.is("mean() of 0, 1, 2", 1.0, x::mean);
    Due.is("mean() of 14 in a pile", 6.5, () -> Edges.pile(14).mean());
  }

  private static void promise18Digest() {
    Due.is("digest() of none", checksum(0, 0, 0, 0, 0, 0, 0), () -> new CairnShells().digest());
    long one = checksum(
        1, 1, 0, 0, 0, 1, 0,
        0,
        0, 9999, 0, 0, 0, 0, 1, -1, 0, 0, 0, 0, 0, 0);
    Due.is("digest() of one", one, () -> Edges.cairn(1).digest());
    CairnShells x = Edges.cairn(4);
    x.above(0, 2);
    x.above(2, 1);
    x.same(2, 3);
    x.hearth(3, 40, 60);
    x.hearth(1, 50, 70);
    x.hearth(0, 10, 45);
    x.sift(2, 0, 5);
    x.sift(3, 0, 6);
    x.sift(3, 1, 7);
    x.sift(0, 2, 8);
    x.sift(1, 3, 9);
    long four = checksum(
        4, 3, 4, 3, 5, 3, 35,
        1, 2, 3, 0,
        50, 45, 1, 2, 3, 0, 1, 2, 1, 0, 0, 8, 0, 14,
        50, 45, 1, 0, 0, 3, 1, 3, 1, 0, 0, 0, 9, 0,
        50, 45, 1, 1, 1, 1, 2, 0, 0, 11, 7, 0, 0, 2,
        50, 45, 1, 1, 1, 1, 2, 0, 1, 11, 7, 0, 0, 2);
    Due.is("digest() of four", four, x::digest);
  }

  private static long checksum(int... numbers) {
    long d = 1361;
    for (int number : numbers) {
      d = d * 31 + number;
    }
    return d;
  }

  /** Eight layers with something of everything. */
  private static CairnShells fullCairn() {
    CairnShells x = Edges.pile(5);
    x.find();
    x.find();
    x.find();
    x.same(5, 2);
    x.above(6, 5);
    x.hearth(1, 300, 400);
    x.hearth(4, 200, 250);
    x.hearth(6, 350, 360);
    x.sift(5, 2, 9);
    x.sift(2, 1, 8);
    return x;
  }

  private static void refusalsChangeNothing() {
    CairnShells x = fullCairn();
    long before = x.digest();
    int[] strange = {-1, 8, 14, 40, 10000, Integer.MAX_VALUE, Integer.MIN_VALUE};
    for (int outside : strange) {
      Due.refusal("above", Edges.INDEX, () -> x.above(0, outside));
      Due.refusal("above", Edges.INDEX, () -> x.above(outside, 0));
      Due.refusal("same", Edges.INDEX, () -> x.same(7, outside));
      Due.refusal("same", Edges.INDEX, () -> x.same(outside, 7));
      Due.refusal("sift", Edges.INDEX, () -> x.sift(outside, 0, 1));
      Due.refusal("sift", Edges.INDEX, () -> x.sift(0, outside, 1));
      Due.refusal("hearth", Edges.INDEX, () -> x.hearth(outside, 1, 2));
      Due.refusal("clear", Edges.INDEX, () -> x.clear(outside));
    }
    Due.refusal("sift", Edges.ARGUMENT, () -> x.sift(0, 0, 100));
    Due.refusal("hearth", Edges.ARGUMENT, () -> x.hearth(0, 2, 1));
    Due.refusal("hearth", Edges.ARGUMENT, () -> x.hearth(1, 5, 10000));
    Due.refusal("clear", Edges.STATE, () -> x.clear(0));
    Due.refusal("above", Edges.STATE, () -> x.above(0, 6));
    Due.refusal("same", Edges.STATE, () -> x.same(0, 6));
    Due.is("refusals: digest()", before, x::digest);
    CairnShells full = Edges.pile(14);
    long whole = full.digest();
    Due.refusal("find", Edges.STATE, full::find);
    Due.is("refused find: digest()", whole, full::digest);
  }

  private static void questionsChangeNothing() {
    CairnShells x = fullCairn();
    long before = x.digest();
    for (int a = 0; a < 8; a++) {
      for (int b = 0; b < 8; b++) {
        x.later(a, b);
        x.between(a, b);
        x.tells(a, b);
        x.told(a, b);
      }
      x.narrows(a, 355);
      x.order(a);
      x.finds(a, 1);
    }
    x.blame();
    x.mean();
    Due.is("questions: digest()", before, x::digest);
  }
}
