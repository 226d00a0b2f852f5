import java.util.Arrays;

/** Runs a test for each sentence of the document, each on an object of its own, and tells which do not hold. */
final class Sentences {
  private int tests = 0;
  private int wrong = 0;

  interface Check {
    void on(Trial x);
  }

  interface Call {
    long on(Trial x);
  }

  void holds(String sentence, Check check) {
    tests++;
    Trial x = new Trial(sentence);
    try {
      check.on(x);
    } catch (RuntimeException thrown) {
      wrong++;
      System.out.println("\"" + sentence + "\": " + thrown);
      thrown.printStackTrace(System.out);
    }
    if (x.wrong() > 0) wrong++;
  }

  /**
   * A refused call answers as told, is counted once by its kind (BAD is not), and is told by refused(); a twin to which
   * all but this call was done looks the same.
   */
  void refuses(String sentence, int why, Check setUp, Call call) {
    holds(sentence, x -> {
      Trial twin = x.twin();
      setUp.on(x);
      setUp.on(twin);
      int[] oftens = x.oftens();
      x.refused(why, call.on(x));
      if (why != OrreryWorks.BAD) oftens[OrreryWorks.FULL - why]++;
      x.same(Arrays.toString(oftens), Arrays.toString(x.oftens()));
      x.due(0, x.often(OrreryWorks.BAD));
      x.due(why, x.refused());
      x.same(twin.state(), x.state());
    });
  }

  void end() {
    System.out.println(tests - wrong + " tests of sentences hold, " + wrong + " do not");
    if (wrong > 0 || tests == 0) System.exit(1);
  }
}
