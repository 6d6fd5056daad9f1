/** Runs every test of the project; ends with exit code 1 if one fails. */
public final class AllTests {
  private AllTests() {
  }

  /** The argument is the path of RunFaxes.java. */
  public static void main(String[] args) {
    FaceTests.run();
    LanguageTests.run(args[0]);
    PagePromises.run();
    CodePromises.run();
    StreamPromises.run();
    TextPromises.run();
    UndoPromises.run();
    EdgesOfPages.run();
    EdgesOfCodes.run();
    EdgesOfStreams.run();
    EdgesOfReadings.run();
    EdgesOfTexts.run();
    EdgesOfUndo.run();
    Refusals.run();
    RoomTests.run();
    RandomRuns.run();
    if (Check.close() != 0) {
      System.exit(1);
    }
  }
}
