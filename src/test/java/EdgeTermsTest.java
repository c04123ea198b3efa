/** The edges that the document names ahead of its promises, each sentence by itself. */
public final class EdgeTermsTest {
  public static void main(String[] args) {
    callsToTheLast();
    refusedCallsToTheLast();
    cutTowards0();
    cutAfterAdding();
    laterIfToldSo();
    laterByTheSame();
    laterByWayOfFurtherOnes();
    sameByWayOfFurtherOnes();
    sameAsItself();
    findsAtFirst();
    findsAddedUp();
    seasonCounts();
    seasonOfSeveral();
    seasonOfNone();
    seasonOfMost();
    hearthNoneAtFirst();
    hearthBothEnds();
    firstYearGreatest();
    firstYearWithoutAny();
    lastYearLeast();
    lastYearWithoutAny();
    doubtful();
    phase0();
    phaseOneGreater();
    Due.end("EdgeTermsTest");
  }

  private static void callsToTheLast() {
    Due.sentence("An object is used for at most 512 calls after it has been made");
    CairnShells x = Edges.pile(14);
    for (int call = 27; call < 511; call++) {
      int layer = call % 14;
      if (call % 3 == 0) {
        x.hearth(layer, call, 2 * call);
      } else if (call % 3 == 1) {
        x.sift(layer, call % 4, call % 100);
      } else {
        x.blame();
      }
    }
    CairnShells y = Edges.pile(14);
    for (int call = 511 - 84; call < 511; call++) {
      if (call % 3 == 0) {
        y.hearth(call % 14, call, 2 * call);
      }
    }
    for (int call = 511 - 84; call < 511; call++) {
      if (call % 3 == 1) {
        y.sift(call % 14, call % 4, call % 100);
      }
    }
    // Of 84 calls in a row each layer had its last hearth and the last of each kind of its finds.
    Due.is("the 512th call, digest()", y.digest(), x::digest);
    CairnShells z = Edges.pile(14);
    long d = z.digest();
    for (int call = 28; call < 511; call++) {
      z.digest();
    }
    Due.is("the 512th call, digest() again", d, z::digest);
  }

  private static void refusedCallsToTheLast() {
    Due.sentence("at most 512 calls: the refused ones ahead of the last one");
    CairnShells x = new CairnShells();
    for (int call = 0; call < 511; call++) {
      Due.answerOf(() -> x.above(0, 0));
    }
    Due.is("the 512th call, find()", 0, x::find);
  }

  private static void cutTowards0() {
    Due.sentence("half (cut) of the herring bones");
    season("spring 6 + 0, winter 6", 0, 2, 3, 1, 0);
    season("spring 6 + 1, winter 6", 1, 2, 3, 2, 0);
    season("spring 14 + 1, winter 15", 0, 5, 7, 3, 0);
    season("spring 198 + 32, summer 130 + 99", 1, 0, 99, 65, 0);
    season("spring 198 + 33, summer 132 + 99", 1, 0, 99, 66, 0);
    season("spring 198 + 33, summer 134 + 99", 2, 0, 99, 67, 0);
  }

  private static void cutAfterAdding() {
    Due.sentence("half (cut) of the herring bones, added up with those of the same");
    CairnShells x = Edges.oneLayer(2);
    x.sift(0, 0, 3);
    x.sift(0, 3, 1);
    x.sift(1, 1, 5);
    x.sift(0, 2, 1);
    Due.is("spring 10 + 0, winter 10", 0, () -> x.told(0, 7));
    x.sift(1, 2, 1);
    Due.is("spring 10 + 1, winter 10", 1, () -> x.told(0, 7));
  }

  private static void laterIfToldSo() {
    Due.sentence("A layer is later than another one, if it was told so");
    CairnShells x = Edges.cairn(14);
    Due.is("later(13, 0) untold", false, () -> x.later(13, 0));
    x.above(13, 0);
    Due.is("later(13, 0)", true, () -> x.later(13, 0));
    Due.is("later(0, 13)", false, () -> x.later(0, 13));
    Due.is("later(13, 1)", false, () -> x.later(13, 1));
    Due.is("later(12, 0)", false, () -> x.later(12, 0));
    Due.is("pairs", 1, () -> x.count(4));
  }

  private static void laterByTheSame() {
    Due.sentence("if it is the same as one that was told later than one that is the same as the"
        + " other one");
    CairnShells ahead = Edges.cairn(4);
    ahead.same(0, 1);
    ahead.same(2, 3);
    ahead.above(2, 1);
    allOf2And3OverAllOf0And1("told the same ahead", ahead);
    CairnShells behind = Edges.cairn(4);
    behind.above(2, 1);
    behind.same(0, 1);
    behind.same(2, 3);
    allOf2And3OverAllOf0And1("told the same behind", behind);
  }

  private static void allOf2And3OverAllOf0And1(String when, CairnShells x) {
    for (int a = 0; a < 4; a++) {
      for (int b = 0; b < 4; b++) {
        int one = a;
        int other = b;
        String call = "later(" + a + ", " + b + ") " + when;
        Due.is(call, a >= 2 && b <= 1, () -> x.later(one, other));
      }
    }
  }

  private static void laterByWayOfFurtherOnes() {
    Due.sentence("or by way of further ones between them");
    CairnShells upwards = Edges.pile(14);
    Due.is("later(13, 0) by way of 12", true, () -> upwards.later(13, 0));
    Due.is("later(0, 13) by way of 12", false, () -> upwards.later(0, 13));
    CairnShells downwards = Edges.cairn(14);
    for (int layer = 13; layer > 0; layer--) {
      downwards.above(layer, layer - 1);
    }
    Due.is("later(13, 0) told from above", true, () -> downwards.later(13, 0));
    Due.is("pairs told from above", 91, () -> downwards.count(4));
    CairnShells x = Edges.cairn(14);
    // Above and the same by turns: 13 is as 12, which is over 11, which is as 10, and so on.
    for (int layer = 1; layer < 14; layer += 2) {
      x.same(layer, layer - 1);
    }
    for (int layer = 2; layer < 14; layer += 2) {
      x.above(layer, layer - 1);
    }
    Due.is("later(13, 0) by turns", true, () -> x.later(13, 0));
    Due.is("later(13, 12) by turns", false, () -> x.later(13, 12));
    Due.is("pairs by turns", 4 * 21, () -> x.count(4));
    CairnShells joined = Edges.cairn(4);
    joined.above(3, 2);
    joined.above(1, 0);
    joined.same(2, 1);
    Due.is("later(3, 0) by way of two that are the same", true, () -> joined.later(3, 0));
  }

  private static void sameByWayOfFurtherOnes() {
    Due.sentence("Layers that were told to be the same are the same, each with each, also by way"
        + " of further ones");
    CairnShells x = Edges.cairn(14);
    for (int layer = 0; layer < 14; layer += 2) {
      x.same(layer, layer + 1);
    }
    for (int layer = 1; layer < 13; layer += 2) {
      x.same(layer, layer + 1);
    }
    for (int layer = 0; layer < 14; layer++) {
      int each = layer;
      Due.is("told(" + layer + ", 6)", 14, () -> x.told(each, 6));
    }
    Due.refusal("above(0, 13)", Edges.STATE, () -> x.above(0, 13));
    Due.refusal("above(13, 0)", Edges.STATE, () -> x.above(13, 0));
    Due.is("sorts", 1, () -> x.count(5));
    CairnShells y = Edges.cairn(4);
    y.same(0, 1);
    y.same(2, 3);
    Due.is("told(0, 6) of two pairs", 2, () -> y.told(0, 6));
    Due.is("told(3, 6) of two pairs", 2, () -> y.told(3, 6));
  }

  private static void sameAsItself() {
    Due.sentence("each is the same as itself");
    CairnShells x = Edges.cairn(14);
    for (int layer = 0; layer < 14; layer++) {
      int each = layer;
      Due.is("told(" + layer + ", 6)", 1, () -> x.told(each, 6));
      Due.is("same with itself", 1, () -> x.same(each, each));
      Due.is("later than itself", false, () -> x.later(each, each));
      Due.is("between itself", -1, () -> x.between(each, each));
      Due.is("tells of itself", -1, () -> x.tells(each, each));
      Due.refusal("above itself", Edges.STATE, () -> x.above(each, each));
    }
    Due.is("sorts", 14, () -> x.count(5));
    Due.is("pairs", 0, () -> x.count(4));
  }

  private static void findsAtFirst() {
    Due.sentence("mussels (0), cockles (1), herring bones (2), dogs' teeth (3), each 0 (at first)"
        + " to 99");
    for (int kind = 0; kind < 4; kind++) {
      CairnShells x = Edges.cairn(14);
      int each = kind;
      Due.is("finds(13, " + kind + ") at first", 0, () -> x.finds(13, each));
      Due.is("sift(13, " + kind + ", 99)", 0, () -> x.sift(13, each, 99));
      Due.is("finds(13, " + kind + ")", 99, () -> x.finds(13, each));
      for (int other = 0; other < 4; other++) {
        int beside = other;
        Due.is("finds(12, " + other + ")", 0, () -> x.finds(12, beside));
        Due.is("finds(13, " + other + ")", other == kind ? 99 : 0, () -> x.finds(13, beside));
      }
    }
  }

  private static void findsAddedUp() {
    Due.sentence("Finds of a layer and of all that are the same as it are added up");
    for (int kind = 0; kind < 4; kind++) {
      CairnShells x = Edges.oneLayer(14);
      for (int layer = 0; layer < 14; layer++) {
        x.sift(layer, kind, 99);
      }
      int each = kind;
      Due.is("finds(0, " + kind + ") of 14 full ones", 1386, () -> x.finds(0, each));
      Due.is("finds(13, " + kind + ") of 14 full ones", 1386, () -> x.finds(13, each));
    }
    CairnShells y = Edges.pile(2);
    y.sift(0, 1, 99);
    y.sift(1, 1, 1);
    Due.is("finds(1, 1) over another one", 1, () -> y.finds(1, 1));
    Due.is("finds(0, 1) under another one", 99, () -> y.finds(0, 1));
  }

  private static void seasonCounts() {
    Due.sentence("the season with the most counts");
    season("spring 7, winter 6", 1, 2, 3, 2, 0);
    season("summer 7, winter 6", 2, 2, 1, 3, 0);
    season("autumn 15, winter 12", 3, 3, 0, 0, 3);
    season("summer 9, spring 7", 2, 0, 3, 3, 0);
    season("autumn 5, spring 4, winter 4", 3, 1, 2, 0, 1);
    season("autumn 5, summer 4, winter 4", 3, 1, 0, 2, 1);
    season("winter 5, autumn 3", 0, 2, 0, 0, 0);
    season("winter 10, autumn 7", 0, 3, 0, 0, 1);
  }

  private static void seasonOfSeveral() {
    Due.sentence("of several the first one");
    season("winter 6, spring 6", 0, 2, 3, 0, 0);
    season("winter 6, summer 6", 0, 2, 0, 3, 0);
    season("winter 11, autumn 11", 0, 3, 0, 0, 2);
    season("spring 7, summer 7", 1, 0, 3, 2, 0);
    season("spring 4, autumn 4", 1, 0, 2, 0, 1);
    season("summer 4, autumn 4", 2, 0, 0, 2, 1);
    season("spring 28, summer 28, autumn 28", 1, 0, 12, 8, 7);
    season("all 77", 0, 21, 33, 22, 14);
  }

  private static void seasonOfNone() {
    Due.sentence("without any finds there is none");
    season("no finds", -1, 0, 0, 0, 0);
    season("one mussel", 0, 1, 0, 0, 0);
    season("one cockle", 1, 0, 1, 0, 0);
    season("one herring bone", 2, 0, 0, 1, 0);
    season("one dog's tooth", 3, 0, 0, 0, 1);
    CairnShells x = Edges.cairn(3);
    x.same(0, 1);
    x.above(2, 1);
    Due.is("none in both", -1, () -> x.told(0, 7));
    x.sift(1, 1, 1);
    Due.is("a cockle in the other one", 1, () -> x.told(0, 7));
    Due.is("a cockle in that below", -1, () -> x.told(2, 7));
    x.sift(1, 1, 0);
    Due.is("none again", -1, () -> x.told(0, 7));
  }

  private static void seasonOfMost() {
    Due.sentence("each added: of 14 that are the same, all full");
    CairnShells x = Edges.oneLayer(14);
    for (int layer = 0; layer < 14; layer++) {
      for (int kind = 0; kind < 3; kind++) {
        x.sift(layer, kind, 99);
      }
    }
    Due.is("winter 4158, spring 3465, summer 4158", 0, () -> x.told(13, 7));
    x.sift(5, 0, 98);
    Due.is("winter 4155, spring 3465, summer 4158", 2, () -> x.told(13, 7));
    for (int layer = 0; layer < 14; layer++) {
      x.sift(layer, 3, 99);
    }
    Due.is("winter 5541, summer 4158, autumn 6929", 3, () -> x.told(13, 7));
  }

  private static void season(
      String counts, int due, int mussels, int cockles, int bones, int teeth) {
    CairnShells x = Edges.cairn(1);
    x.sift(0, 0, mussels);
    x.sift(0, 1, cockles);
    x.sift(0, 2, bones);
    x.sift(0, 3, teeth);
    Due.is("season, " + counts, due, () -> x.told(0, 7));
  }

  private static void hearthNoneAtFirst() {
    Due.sentence("A layer has a hearth, or none (at first)");
    CairnShells x = Edges.pile(14);
    for (int layer = 0; layer < 14; layer++) {
      int each = layer;
      Due.is("told(" + layer + ", 8) at first", 0, () -> x.told(each, 8));
    }
    Due.is("hearths at first", 0, () -> x.count(3));
    x.hearth(13, 0, 9999);
    Due.is("told(13, 8)", 1, () -> x.told(13, 8));
    Due.is("told(12, 8)", 0, () -> x.told(12, 8));
    Due.is("hearths", 1, () -> x.count(3));
  }

  private static void hearthBothEnds() {
    Due.sentence("which dates it from a year to a year, 0 to 9999");
    CairnShells x = Edges.cairn(1);
    x.hearth(0, 0, 0);
    years("0 to 0", x, 0, 0, 0, 0);
    x.hearth(0, 9999, 9999);
    years("9999 to 9999", x, 0, 9999, 9999, 0);
    x.hearth(0, 0, 9999);
    years("0 to 9999", x, 0, 0, 9999, 0);
    x.hearth(0, 1, 9998);
    years("1 to 9998", x, 0, 1, 9998, 0);
  }

  private static void firstYearGreatest() {
    Due.sentence("A layer is from the greatest of the first years of all hearths of layers that"
        + " are the same, or that it is later than");
    // 3 over 1 and 2, which are the same, over 0.
    CairnShells x = Edges.cairn(4);
    x.above(1, 0);
    x.same(2, 1);
    x.above(3, 2);
    x.hearth(0, 100, 9999);
    firstYears("by that below", x, 100, 100, 100, 100);
    x.hearth(2, 101, 9999);
    firstYears("by one more in the same", x, 100, 101, 101, 101);
    x.hearth(2, 99, 9999);
    firstYears("by one less in the same", x, 100, 100, 100, 100);
    x.hearth(1, 100, 9999);
    firstYears("by as many", x, 100, 100, 100, 100);
    x.hearth(3, 9999, 9999);
    firstYears("by that above", x, 100, 100, 100, 9999);
  }

  private static void firstYears(String how, CairnShells x, int... due) {
    for (int layer = 0; layer < due.length; layer++) {
      int each = layer;
      Due.is("told(" + layer + ", 0) " + how, due[layer], () -> x.told(each, 0));
    }
  }

  private static void firstYearWithoutAny() {
    Due.sentence("0 without any");
    CairnShells x = Edges.pile(3);
    x.find();
    x.hearth(2, 5000, 6000);
    x.hearth(3, 7000, 8000);
    firstYears("with hearths above and beside alone", x, 0, 0, 5000, 7000);
    x.clear(2);
    x.clear(3);
    firstYears("with none left", x, 0, 0, 0, 0);
  }

  private static void lastYearLeast() {
    Due.sentence("up to the least of the last years of all hearths of layers that are the same,"
        + " or later than it");
    CairnShells x = Edges.cairn(4);
    x.above(1, 0);
    x.same(2, 1);
    x.above(3, 2);
    x.hearth(3, 0, 900);
    lastYears("by that above", x, 900, 900, 900, 900);
    x.hearth(2, 0, 899);
    lastYears("by one less in the same", x, 899, 899, 899, 900);
    x.hearth(2, 0, 901);
    lastYears("by one more in the same", x, 900, 900, 900, 900);
    x.hearth(1, 0, 900);
    lastYears("by as many", x, 900, 900, 900, 900);
    x.hearth(0, 0, 0);
    lastYears("by that below", x, 0, 900, 900, 900);
  }

  private static void lastYears(String how, CairnShells x, int... due) {
    for (int layer = 0; layer < due.length; layer++) {
      int each = layer;
      Due.is("told(" + layer + ", 1) " + how, due[layer], () -> x.told(each, 1));
    }
  }

  private static void lastYearWithoutAny() {
    Due.sentence("9999 without any");
    CairnShells x = Edges.pile(3);
    x.find();
    x.hearth(0, 5000, 6000);
    x.hearth(3, 7000, 8000);
    lastYears("with hearths below and beside alone", x, 6000, 9999, 9999, 8000);
    x.clear(0);
    x.clear(3);
    lastYears("with none left", x, 9999, 9999, 9999, 9999);
  }

  private static void doubtful() {
    Due.sentence("It is doubtful, if the first one of both is greater than the last one");
    CairnShells x = Edges.pile(2);
    x.hearth(0, 500, 600);
    x.hearth(1, 400, 501);
    years("one less", x, 0, 500, 501, 0);
    x.hearth(1, 400, 500);
    years("as great", x, 0, 500, 500, 0);
    years("as great, above", x, 1, 500, 500, 0);
    x.hearth(1, 400, 499);
    years("one greater", x, 0, 500, 499, 1);
    years("one greater, above", x, 1, 500, 499, 1);
    x.hearth(0, 9999, 9999);
    x.hearth(1, 0, 0);
    years("the most", x, 0, 9999, 0, 1);
    CairnShells y = Edges.oneLayer(2);
    y.hearth(0, 500, 600);
    y.hearth(1, 600, 700);
    years("the same, as great", y, 0, 600, 600, 0);
    y.hearth(1, 601, 700);
    years("the same, one greater", y, 0, 601, 600, 1);
    years("the same, one greater", y, 1, 601, 600, 1);
  }

  private static void years(String what, CairnShells x, int layer, int from, int to, int doubt) {
    Due.is(what + ": told(" + layer + ", 0)", from, () -> x.told(layer, 0));
    Due.is(what + ": told(" + layer + ", 1)", to, () -> x.told(layer, 1));
    Due.is(what + ": told(" + layer + ", 2)", doubt, () -> x.told(layer, 2));
  }

  private static void phase0() {
    Due.sentence("A layer is in the phase 0, if it is later than none");
    CairnShells x = Edges.cairn(14);
    x.above(1, 0);
    x.same(2, 0);
    phases("one over another one, one the same", x, 0, 1, 0, 0, 0, 0, 0, 0, 0, 0, 0, 0, 0, 0);
    phases("all the same", Edges.oneLayer(4), 0, 0, 0, 0);
  }

  private static void phaseOneGreater() {
    Due.sentence("otherwise in that which is 1 greater than the greatest of all layers than which"
        + " it is later");
    phases("of a pile", Edges.pile(14), 0, 1, 2, 3, 4, 5, 6, 7, 8, 9, 10, 11, 12, 13);
    CairnShells x = Edges.cairn(6);
    x.above(0, 1);
    x.above(1, 2);
    x.above(3, 4);
    x.above(5, 0);
    x.above(5, 3);
    phases("over a long and a short way", x, 2, 1, 0, 1, 0, 3);
    x.same(4, 0);
    phases("after the long way got longer", x, 2, 1, 0, 3, 2, 4);
    CairnShells y = Edges.cairn(4);
    y.above(1, 0);
    y.same(2, 1);
    y.above(3, 2);
    phases("over two that are the same", y, 0, 1, 1, 2);
  }

  private static void phases(String what, CairnShells x, int... due) {
    for (int layer = 0; layer < due.length; layer++) {
      int each = layer;
      Due.is("told(" + layer + ", 3) " + what, due[layer], () -> x.told(each, 3));
    }
  }
}
