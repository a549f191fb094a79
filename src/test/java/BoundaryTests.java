/** For each sentence of the document that names a boundary case a test of its own, by the promise's number. */
public final class BoundaryTests {
  private BoundaryTests() {
  }

  public static void main(String[] args) {
    HouseBounds.run();
    LotBounds.run();
    OwnerBounds.run();
    HutBounds.run();
    YearBounds.run();
    TextBounds.run();
    SheetBounds.run();
    ImageBounds.run();
    TermBounds.run();
    StayBounds.run();
    Bounds.report();
  }
}
