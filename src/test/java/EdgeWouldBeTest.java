import java.math.BigInteger;
import java.util.ArrayList;
import java.util.List;

/** The edges that promises 14 to 18 name, each sentence by itself. */
public final class EdgeWouldBeTest {
  public static void main(String[] args) {
    blameTheFewest();
    blameSmallestNumber();
    blameNoneDoubtful();
    blameNoneFewer();
    blameChangesNothing();
    narrowsNoSuchLayer();
    narrowsYear();
    narrowsDoubtfulNow();
    narrowsDoubtfulThen();
    narrowsInPlaceOfItsOwn();
    narrowsLessThan0();
    narrowsTheMost();
    narrowsChangesNothing();
    tellsRefusedTheSame();
    tellsRefusedTheLaterOne();
    tellsAsAboveDoes();
    tellsHowMany();
    tellsNoSuchLayer();
    meanWithoutAny();
    meanOfAll();
    digestWithoutLayers();
    digestWrapsAround();
    digestOfTheLargest();
    Due.end("EdgeWouldBeTest");
  }

  private static void hearths(CairnShells x, int... fromAndTo) {
    for (int layer = 0; layer < fromAndTo.length / 2; layer++) {
      x.hearth(layer, fromAndTo[2 * layer], fromAndTo[2 * layer + 1]);
    }
  }

  private static void blameTheFewest() {
    Due.sentence("14: the layer without whose hearth the fewest layers would be doubtful");
    CairnShells x = Edges.pile(3);
    hearths(x, 500, 600, 510, 600, 400, 450);
    // All three are doubtful; without 0 two still are, without 1 all three, without 2 none.
    Due.is("blame() of the last one", 2, x::blame);
    x.hearth(1, 400, 450);
    Due.is("blame() of the first one", 0, x::blame);
    CairnShells y = Edges.pile(4);
    hearths(y, 500, 600, 500, 600, 300, 350, 500, 600);
    // Without 0 there is still 1 below 2, and without 1 there is still 0.
    Due.is("blame() of one in the middle", 2, y::blame);
    CairnShells z = Edges.pile(5);
    z.hearth(1, 500, 600);
    z.hearth(3, 400, 450);
    z.hearth(4, 460, 470);
    // 1 to 4 are doubtful, 2 without a hearth too; without 1 none, without 3 all four, without 4
    // the other three.
    Due.is("doubtful", 4, () -> z.count(2));
    Due.is("blame() of one below", 1, z::blame);
    CairnShells few = Edges.pile(2);
    few.find();
    few.find();
    few.find();
    few.above(3, 2);
    few.above(4, 3);
    hearths(few, 500, 600, 400, 450, 500, 600);
    few.hearth(4, 400, 450);
    // Without 0 or 1 three of the five are left, without 2 or 4 only two.
    Due.is("doubtful", 5, () -> few.count(2));
    Due.is("blame() of one that leaves one fewer than 0 does", 2, few::blame);
    few.hearth(2, 0, 600);
    few.hearth(3, 451, 460);
    // Of the four, 0 and 1, 3 and 4, each leaves two; 2 is not doubtful any more.
    Due.is("blame() of one that leaves as many as 3 does", 0, few::blame);
  }

  private static void blameSmallestNumber() {
    Due.sentence("14: of several the smallest number");
    CairnShells x = Edges.cairn(14);
    x.above(13, 12);
    x.hearth(0, 1, 2);
    x.hearth(12, 500, 600);
    x.hearth(13, 400, 499);
    Due.is("blame() of 12 and 13", 12, x::blame);
    CairnShells y = Edges.cairn(14);
    y.above(12, 13);
    y.hearth(13, 500, 600);
    y.hearth(12, 400, 499);
    Due.is("blame() of 13 and 12", 12, y::blame);
    CairnShells z = Edges.cairn(4);
    z.same(0, 1);
    z.same(2, 3);
    hearths(z, 1, 1, 2, 2, 1, 1, 2, 2);
    Due.is("blame() of two pairs", 0, z::blame);
    CairnShells four = Edges.cairn(14);
    four.same(12, 13);
    four.above(11, 10);
    four.above(11, 12);
    four.hearth(12, 0, 0);
    four.hearth(13, 1, 1);
    four.hearth(10, 500, 500);
    four.hearth(11, 0, 100);
    // 10 and 11 are doubtful by each other, 12 and 13 too; without any one the other two still are.
    Due.is("doubtful", 4, () -> four.count(2));
    Due.is("blame() of 10 to 13", 10, four::blame);
  }

  private static void blameNoneDoubtful() {
    Due.sentence("14: -1 if there are none doubtful");
    Due.is("blame() without layers", -1, new CairnShells()::blame);
    Due.is("blame() without hearths", -1, Edges.pile(14)::blame);
    CairnShells x = Edges.pile(14);
    for (int layer = 0; layer < 14; layer++) {
      x.hearth(layer, 700, 700);
    }
    Due.is("blame() of 14 that agree", -1, x::blame);
    CairnShells y = Edges.pile(2);
    hearths(y, 500, 600, 400, 500);
    Due.is("blame() with the first year as great as the last one", -1, y::blame);
    y.hearth(1, 400, 499);
    Due.is("blame() with the first year one greater", 0, y::blame);
  }

  private static void blameNoneFewer() {
    Due.sentence("14: -1 if by none fewer");
    CairnShells x = Edges.oneLayer(3);
    hearths(x, 1, 1, 2, 2, 3, 3);
    Due.is("blame() of three in the same", -1, x::blame);
    x.clear(2);
    Due.is("blame() of two in the same", 0, x::blame);
    CairnShells y = Edges.cairn(4);
    y.same(0, 1);
    y.same(2, 3);
    y.above(2, 0);
    hearths(y, 500, 600, 500, 600, 300, 400, 300, 400);
    Due.is("blame() of two over two", -1, y::blame);
    y.clear(3);
    Due.is("blame() of one over two", 2, y::blame);
    CairnShells z = Edges.oneLayer(14);
    for (int layer = 0; layer < 14; layer++) {
      z.hearth(layer, layer, layer);
    }
    Due.is("blame() of 14 in the same", -1, z::blame);
  }

  private static void blameChangesNothing() {
    Due.sentence("14: (nothing is changed)");
    CairnShells x = Edges.pile(3);
    hearths(x, 500, 600, 510, 600, 400, 450);
    long before = x.digest();
    Due.is("blame()", 2, x::blame);
    Due.is("blame() once more", 2, x::blame);
    Due.is("digest()", before, x::digest);
    Due.is("clear(0)", 500, () -> x.clear(0));
    Due.is("clear(1)", 510, () -> x.clear(1));
    Due.is("clear(2)", 400, () -> x.clear(2));
  }

  private static void narrowsNoSuchLayer() {
    Due.sentence("15: IndexOutOfBoundsException if there is no such layer");
    for (int layers : new int[] {1, 13, 14}) {
      CairnShells x = Edges.cairn(layers);
      Edges.index("narrows(.., 70) of " + layers, layers, layer -> x.narrows(layer, 70));
      Due.is("narrows of the last one", 9999, () -> x.narrows(layers - 1, 70));
    }
  }

  private static void narrowsYear() {
    Due.sentence("15: IllegalArgumentException if year is not 0 to 9999");
    CairnShells x = Edges.pile(2);
    Edges.beyond("narrows(0, ..)", Edges.ARGUMENT, 9999, year -> x.narrows(0, year));
    Edges.beyond("narrows(1, ..)", Edges.ARGUMENT, 9999, year -> x.narrows(1, year));
    Due.is("narrows(0, 0)", 9999, () -> x.narrows(0, 0));
    Due.is("narrows(0, 1)", 9999 + 1, () -> x.narrows(0, 1));
    Due.is("narrows(0, 9998)", 9999 + 9998, () -> x.narrows(0, 9998));
    Due.is("narrows(0, 9999)", 9999 + 9999, () -> x.narrows(0, 9999));
    Due.is("narrows(1, 0)", 9999 + 9999, () -> x.narrows(1, 0));
    Due.is("narrows(1, 9999)", 9999, () -> x.narrows(1, 9999));
  }

  private static void narrowsDoubtfulNow() {
    Due.sentence("15: all layers that are not doubtful now");
    CairnShells x = Edges.pile(3);
    x.hearth(0, 500, 600);
    x.hearth(1, 400, 499);
    // 0 and 1 are from 500 to 499 now, 2 from 500 to 9999.
    Due.is("doubtful", 2, () -> x.count(2));
    Due.is("narrows(1, 550) ends the doubt of 0 and 1, 2 from 550", 50, () -> x.narrows(1, 550));
    x.hearth(1, 400, 500);
    // 0 and 1 are from 500 to 500 now.
    Due.is("narrows(1, 550) of 0 to 550, 1, and 2", -50 + 0 + 50, () -> x.narrows(1, 550));
    Due.is("narrows(1, 501) of 0 to 501, 1, and 2", -1 + 0 + 1, () -> x.narrows(1, 501));
  }

  private static void narrowsDoubtfulThen() {
    Due.sentence("15: and would not be then");
    CairnShells x = Edges.pile(3);
    x.hearth(0, 500, 600);
    // 0 is from 500 to 600, 1 and 2 from 500 to 9999.
    Due.is("narrows(1, 499) makes 0 and 1 doubtful", 0, () -> x.narrows(1, 499));
    Due.is("narrows(1, 500)", 100 + 9499 + 0, () -> x.narrows(1, 500));
    Due.is("narrows(1, 501)", 99 + 9499 + 1, () -> x.narrows(1, 501));
    Due.is("narrows(2, 499) makes all doubtful", 0, () -> x.narrows(2, 499));
    Due.is("narrows(2, 500)", 100 + 9499 + 9499, () -> x.narrows(2, 500));
  }

  private static void narrowsInPlaceOfItsOwn() {
    Due.sentence("15: in the place of its own one");
    CairnShells x = Edges.oneLayer(2);
    x.hearth(0, 400, 600);
    Due.is("narrows(0, 399)", 400, () -> x.narrows(0, 399));
    Due.is("narrows(0, 601)", 400, () -> x.narrows(0, 601));
    // Beside the other one's hearth, not in its place: both are doubtful then.
    Due.is("narrows(1, 399)", 0, () -> x.narrows(1, 399));
    Due.is("narrows(1, 400)", 400, () -> x.narrows(1, 400));
    Due.is("narrows(1, 600)", 400, () -> x.narrows(1, 600));
    Due.is("narrows(1, 601)", 0, () -> x.narrows(1, 601));
  }

  private static void narrowsLessThan0() {
    Due.sentence("15: less than 0, if less narrowly");
    CairnShells x = Edges.pile(2);
    x.hearth(0, 1, 1);
    Due.is("narrows(0, 0)", -1, () -> x.narrows(0, 0));
    Due.is("narrows(0, 1)", 0, () -> x.narrows(0, 1));
    Due.is("narrows(0, 2)", 1, () -> x.narrows(0, 2));
    CairnShells up = Edges.pile(14);
    up.hearth(0, 9999, 9999);
    Due.is("narrows(0, 0) the least", -13 * 9999, () -> up.narrows(0, 0));
    CairnShells down = Edges.pile(14);
    down.hearth(13, 0, 0);
    Due.is("narrows(13, 9999) the least", -13 * 9999, () -> down.narrows(13, 9999));
  }

  private static void narrowsTheMost() {
    Due.sentence("15: all layers, added: 14 of them");
    CairnShells one = Edges.oneLayer(14);
    Due.is("narrows(13, 5000) of one", 14 * 9999, () -> one.narrows(13, 5000));
    CairnShells pile = Edges.pile(14);
    Due.is("narrows(13, 0) of a pile", 14 * 9999, () -> pile.narrows(13, 0));
    Due.is("narrows(0, 9999) of a pile", 14 * 9999, () -> pile.narrows(0, 9999));
    Due.is("narrows(0, 0) of a pile", 9999, () -> pile.narrows(0, 0));
  }

  private static void narrowsChangesNothing() {
    Due.sentence("15: nothing is changed");
    CairnShells x = Edges.pile(3);
    x.hearth(1, 400, 600);
    long before = x.digest();
    int first = x.narrows(1, 500);
    Due.is("narrows(1, 500) once more", first, () -> x.narrows(1, 500));
    x.narrows(0, 9999);
    x.narrows(2, 0);
    Due.is("digest()", before, x::digest);
    Due.is("told(0, 8)", 0, () -> x.told(0, 8));
    Due.is("clear(1)", 400, () -> x.clear(1));
    Due.refusal("clear(2)", Edges.STATE, () -> x.clear(2));
  }

  private static void tellsRefusedTheSame() {
    Due.sentence("16: -1 if that would be refused, since both are the same");
    CairnShells x = Edges.cairn(14);
    Due.is("tells(0, 0)", -1, () -> x.tells(0, 0));
    Due.is("tells(13, 13)", -1, () -> x.tells(13, 13));
    x.same(0, 1);
    x.same(1, 13);
    Due.is("tells(0, 1)", -1, () -> x.tells(0, 1));
    Due.is("tells(1, 0)", -1, () -> x.tells(1, 0));
    Due.is("tells(0, 13) by way of 1", -1, () -> x.tells(0, 13));
    Due.is("tells(13, 0) by way of 1", -1, () -> x.tells(13, 0));
    Due.is("tells(0, 2)", 3, () -> x.tells(0, 2));
  }

  private static void tellsRefusedTheLaterOne() {
    Due.sentence("16: -1 if that would be refused, since b is later than a");
    CairnShells x = Edges.cairn(5);
    x.above(1, 0);
    x.above(2, 1);
    x.same(3, 2);
    x.same(4, 0);
    Due.is("tells(0, 1) told so", -1, () -> x.tells(0, 1));
    Due.is("tells(0, 2) by way of 1", -1, () -> x.tells(0, 2));
    Due.is("tells(1, 3) by the same as 2", -1, () -> x.tells(1, 3));
    Due.is("tells(4, 1) by the same as 0", -1, () -> x.tells(4, 1));
    Due.is("tells(4, 3) by the same as 0 and 2", -1, () -> x.tells(4, 3));
    Due.is("tells(3, 4) known already", 0, () -> x.tells(3, 4));
    CairnShells all = Edges.pile(14);
    Due.is("tells(0, 13) by way of all", -1, () -> all.tells(0, 13));
    Due.is("tells(13, 0) by way of all", 0, () -> all.tells(13, 0));
  }

  /** 1 over 0, 3 over 2, 4 as 2, 5 over 4, 6 as 7, 8 by itself. */
  private static CairnShells nineLayers() {
    CairnShells x = Edges.cairn(9);
    x.above(1, 0);
    x.above(3, 2);
    x.same(4, 2);
    x.above(5, 4);
    x.same(6, 7);
    return x;
  }

  private static void tellsAsAboveDoes() {
    Due.sentence("16: in how many pairs of layers more, if a was told later than b");
    CairnShells x = nineLayers();
    int before = x.count(4);
    for (int a = 0; a < 9; a++) {
      for (int b = 0; b < 9; b++) {
        int one = a;
        int other = b;
        CairnShells then = nineLayers();
        Object answer = Due.answerOf(() -> then.above(one, other));
        int due = answer instanceof Integer ? then.count(4) - before : -1;
        Due.is("tells(" + a + ", " + b + ")", due, () -> x.tells(one, other));
      }
    }
    Due.sentence("16: nothing is changed");
    Due.is("pairs", before, () -> x.count(4));
    Due.is("digest()", nineLayers().digest(), x::digest);
  }

  private static void tellsHowMany() {
    Due.sentence("16: in how many pairs of layers more: none, one, and the most");
    CairnShells x = Edges.cairn(14);
    Due.is("tells(13, 0)", 1, () -> x.tells(13, 0));
    x.above(13, 0);
    Due.is("tells(13, 0) told already", 0, () -> x.tells(13, 0));
    CairnShells sorts = Edges.cairn(14);
    for (int layer = 0; layer < 7; layer++) {
      sorts.same(layer, 0);
      sorts.same(layer + 7, 7);
    }
    Due.is("tells(9, 3) of seven and seven the same", 49, () -> sorts.tells(9, 3));
    CairnShells piles = Edges.cairn(14);
    for (int layer = 1; layer < 7; layer++) {
      piles.above(layer, layer - 1);
      piles.above(layer + 7, layer + 6);
    }
    Due.is("tells(7, 6), a pile upon a pile", 49, () -> piles.tells(7, 6));
    Due.is("tells(13, 0), top over bottom", 1, () -> piles.tells(13, 0));
    piles.above(13, 0);
    Due.is("tells(7, 6), all but one new", 48, () -> piles.tells(7, 6));
  }

  private static void tellsNoSuchLayer() {
    Due.sentence("16: IndexOutOfBoundsException if there is no such layer");
    for (int layers : new int[] {1, 13, 14}) {
      CairnShells x = Edges.cairn(layers);
      String of = " of " + layers;
      Edges.index("tells(.., 0)" + of, layers, a -> x.tells(a, 0));
      Edges.index("tells(0, ..)" + of, layers, b -> x.tells(0, b));
      Edges.index("tells(.., the same)" + of, layers, a -> x.tells(a, a));
      int due = layers == 1 ? -1 : 1;
      Due.is("tells of the last one" + of, due, () -> x.tells(layers - 1, 0));
    }
  }

  private static void meanWithoutAny() {
    Due.sentence("17: 0 without any");
    Due.is("mean()", 0.0, new CairnShells()::mean);
    Due.is("mean() of one", 0.0, Edges.cairn(1)::mean);
    Due.is("mean() of 14 in the phase 0", 0.0, Edges.cairn(14)::mean);
  }

  private static void meanOfAll() {
    Due.sentence("17: the mean phase of all layers");
    Due.is("mean() of two", 0.5, Edges.pile(2)::mean);
    Due.is("mean() of a pile of 14", 6.5, Edges.pile(14)::mean);
    CairnShells x = Edges.cairn(14);
    x.above(0, 13);
    Due.is("mean() of one over 13", 1.0 / 14.0, x::mean);
    // Seven the same over one: each of the seven is counted.
    CairnShells y = Edges.oneLayer(7);
    y.find();
    y.above(3, 7);
    Due.is("mean() of seven over one", 7.0 / 8.0, y::mean);
  }

  private static void digestWithoutLayers() {
    Due.sentence("18: A number d starts with 1361; d becomes d * 31 + x");
    Due.is("digest() without layers", checksum(new CairnShells()), new CairnShells()::digest);
    Due.is("the same, as a number", 37444667805071L, new CairnShells()::digest);
  }

  private static void digestWrapsAround() {
    Due.sentence("18: which wraps around as a 64-bit integer");
    boolean below0 = false;
    boolean above0 = false;
    for (int layers = 1; layers <= 14; layers++) {
      CairnShells x = Edges.cairn(layers);
      long due = checksum(x);
      below0 |= due < 0;
      above0 |= due > 0;
      Due.is("digest() of " + layers, due, x::digest);
    }
    // Each of these is far beyond 64 bits before it wraps: some must come out on either side of 0.
    boolean bothSides = below0 && above0;
    Due.is("digests below 0 and above 0", true, () -> bothSides);
  }

  private static void digestOfTheLargest() {
    Due.sentence("18: the set of the layers than which it is later (the bit of each one is set)");
    CairnShells pile = Edges.pile(14);
    CairnShells one = Edges.oneLayer(14);
    for (int layer = 0; layer < 14; layer++) {
      pile.hearth(layer, 9999 - layer, 9999 - layer);
      for (int kind = 0; kind < 4; kind++) {
        pile.sift(layer, kind, 99);
        one.sift(layer, kind, 99);
      }
    }
    Due.is("digest() of a full pile", checksum(pile), pile::digest);
    Due.is("digest() of 14 that are the same, full", checksum(one), one::digest);
  }

  /** Worked out without wrapping around; only the end is brought to 64 bits. */
  private static long checksum(CairnShells x) {
    BigInteger d = BigInteger.valueOf(1361);
    for (int number : numbers(x)) {
      d = d.multiply(BigInteger.valueOf(31)).add(BigInteger.valueOf(number));
    }
    BigInteger whole = BigInteger.ONE.shiftLeft(64);
    BigInteger rest = d.mod(whole);
    return (rest.testBit(63) ? rest.subtract(whole) : rest).longValueExact();
  }

  private static List<Integer> numbers(CairnShells x) {
    List<Integer> numbers = new ArrayList<>();
    for (int what = 0; what <= 6; what++) {
      numbers.add(x.count(what));
    }
    int layers = x.count(0);
    for (int place = 0; place < layers; place++) {
      numbers.add(x.order(place));
    }
    for (int layer = 0; layer < layers; layer++) {
      for (int what = 0; what <= 8; what++) {
        numbers.add(x.told(layer, what));
      }
      for (int kind = 0; kind <= 3; kind++) {
        numbers.add(x.finds(layer, kind));
      }
      int set = 0;
      int bit = 1;
      for (int other = 0; other < layers; other++) {
        set += x.later(layer, other) ? bit : 0;
        bit *= 2;
      }
      numbers.add(set);
    }
    return numbers;
  }
}
