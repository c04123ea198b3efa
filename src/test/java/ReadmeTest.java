/** The example of README.md answers what its comments say. */
public final class ReadmeTest {
  public static void main(String[] args) {
    CairnShells cairn = new CairnShells();
    Due.is("floor = find()", 0, cairn::find);
    Due.is("roof = find()", 1, cairn::find);
    int floor = 0;
    int roof = 1;
    Due.is("above(roof, floor)", 1, () -> cairn.above(roof, floor));
    Due.is("hearth(floor, 500, 600)", 500, () -> cairn.hearth(floor, 500, 600));
    Due.is("told(roof, 0)", 500, () -> cairn.told(roof, 0));
    Due.is("sift(roof, 1, 12)", 0, () -> cairn.sift(roof, 1, 12));
    Due.is("told(roof, 7)", 1, () -> cairn.told(roof, 7));
    Due.end("ReadmeTest");
  }
}
