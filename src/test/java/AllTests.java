/** Runs every test of the project; ends with exit code 1 if one fails. */
public final class AllTests {
  private AllTests() {
  }

  /** The arguments are the paths of RunFaxes.java and README.md. */
  public static void main(String[] args) {
    FaceTests.run();
    LanguageTests.run(args[0]);
    ReadmeTests.run(args[1]);
    PagePromises.run();
    CodePromises.run();
    StreamPromises.run();
    TextPromises.run();
    UndoPromises.run();
    EdgesOfPages.run();
    EdgesOfCodes.run();
    EdgesOfStreams.run();
    EdgesOfReadings.run();
    EdgesOfTexts.run();
    EdgesOfUndo.run();
    NothingElse.run();
    Refusals.run();
    RoomTests.run();
    RandomRuns.run();
    if (Check.close() != 0) {
      System.exit(1);
    }
  }
}
