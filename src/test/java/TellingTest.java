/** What is told of refusals and of how many there are: promises 1 and 22 (count) to 24 (refused), sentence by sentence. */
public final class TellingTest {
  private static final Sentences sentences = new Sentences();
  private static final int LEAST = Integer.MIN_VALUE, GREATEST = Integer.MAX_VALUE;

  public static void main(String[] args) {
    newObject();
    constants();
    count();
    countIsNotTold();
    often();
    oftenOfOthers();
    refusedIsTheLatest();
    refusedIsZeroAfterEachCall();
    refusedStays();
    objectsApart();
    sentences.end();
  }

  private static void newObject() {
    sentences.holds("A new object: Nothing.", x -> {
      x.due(0, x.refused());
      for (int what = 0; what <= 4; what++) x.due(0, x.count(what));
      for (int refusal = -12; refusal <= 2; refusal++) x.due(0, x.often(refusal));
      x.due(0, x.refused());
    });
  }

  private static void constants() {
    sentences.holds("NONE = -1, BAD = -2, FULL = -3, .. NULL = -10", x -> {
      int[] constants = {OrreryWorks.NONE, OrreryWorks.BAD, OrreryWorks.FULL, OrreryWorks.SPUN, OrreryWorks.VOID,
          OrreryWorks.ZERO, OrreryWorks.CAST, OrreryWorks.INDEX, OrreryWorks.STORE, OrreryWorks.NULL};
      for (int i = 0; i < constants.length; i++) x.due(-1 - i, constants[i]);
    });
  }

  private static void count() {
    sentences.holds("count: 0 WHEELS, 1 REGISTERS, 2 STRIPS (also GONE), 3 POINTERS, 4 STANDS", x -> {
      int[] most = {10, 16, 8, 12, 8};
      int[] made = new int[5];
      for (int round = 0; round < 17; round++) {
        for (int what = 0; what <= 4; what++) {
          long number = make(x, what);
          x.due(made[what] < most[what] ? made[what]++ : OrreryWorks.FULL, number);
          for (int of = 0; of <= 4; of++) if (of == what || round % 8 == 0) x.due(made[of], x.count(of));
        }
      }
    });
    sentences.holds("count: 2 STRIPS (also GONE)", x -> {
      x.strip(0, 1);
      x.strip(0, 1);
      x.tear(0);
      x.due(2, x.count(2));
      x.tear(0);
      x.tear(1);
      x.due(2, x.count(2));
    });
  }

  private static long make(Trial x, int what) {
    switch (what) {
      case 0: return x.wheel(2, Trial.d(1.0));
      case 1: return x.register(0);
      case 2: return x.strip(0, 0);
      case 3: return x.pointer(0, 0);
      default: return x.stand(0, 1);
    }
  }

  private static void countIsNotTold() {
    for (int what : new int[] {-1, 5, LEAST, GREATEST}) {
      sentences.holds("count: BAD, which refused() does not tell", x -> {
        x.due(OrreryWorks.BAD, x.count(what));
        x.due(0, x.refused());
        x.strip(0, 0);
        x.kept(0, 0, 0);
        x.due(OrreryWorks.BAD, x.count(what));
        x.due(OrreryWorks.INDEX, x.refused());
        x.due(0, x.often(OrreryWorks.BAD));
        x.due(1, x.often(OrreryWorks.INDEX));
      });
    }
  }

  /** Each refusal by calls of its own; before them, something for all of them is made. */
  private static void ready(Trial x) {
    for (int i = 0; i < 10; i++) x.wheel(3, Trial.d(1.0));
    x.register(0);
    x.register(3);
    x.strip(0, 0);
    x.strip(0, 1);
    x.tear(1);
    x.pointer(0, 0);
    x.stand(1, 2);
  }

  private static final Sentences.Call[] REFUSALS = {
    x -> x.wheel(3, Trial.d(1.0)), x -> x.turn(0, Trial.d(Trial.ENDLESS)), x -> x.work(3, 1, 1, 1),
    x -> x.work(3, 0, 0, 0), x -> x.kept(0, 1, 0), x -> x.kept(0, 0, 0), x -> x.hang(0, 0, 0), x -> x.show(0, 0)};

  private static void often() {
    for (int i = 0; i < REFUSALS.length; i++) {
      int refusal = OrreryWorks.FULL - i;
      Sentences.Call call = REFUSALS[i];
      sentences.holds("often: How often a refusal came: " + refusal, x -> {
        ready(x);
        for (int times = 1; times <= 20; times++) {
          x.refused(refusal, call.on(x));
          x.due(times, x.often(refusal));
          // Neither what is BAD, nor what goes well, nor a question is counted.
          x.work(9, 0, 0, 0);
          x.read(0, 0);
          x.due(times, x.often(refusal));
        }
        for (int other = OrreryWorks.NULL; other <= OrreryWorks.BAD; other++) {
          if (other != refusal) x.due(0, x.often(other));
        }
      });
    }
    sentences.holds("Refusals are counted by their kinds (all but BAD)", x -> {
      ready(x);
      for (int round = 1; round <= 5; round++) {
        for (int i = 0; i < REFUSALS.length; i++) {
          for (int times = 0; times <= i % 3; times++) x.refused(OrreryWorks.FULL - i, REFUSALS[i].on(x));
        }
        for (int i = 0; i < REFUSALS.length; i++) x.due(round * (1 + i % 3), x.often(OrreryWorks.FULL - i));
      }
    });
    sentences.holds("Refusals are counted by their kinds: those of all calls together", x -> {
      ready(x);
      for (int i = 0; i < 16; i++) x.register(0);
      for (int i = 0; i < 8; i++) x.strip(0, 0);
      for (int i = 0; i < 12; i++) x.pointer(0, 0);
      for (int i = 0; i < 8; i++) x.stand(0, 1);
      x.wheel(2, Trial.d(1.0));
      // 2, 2, 1, 1 too many of them, and the wheel.
      x.due(7, x.often(OrreryWorks.FULL));
    });
  }

  private static void oftenOfOthers() {
    sentences.holds("often: (FULL .. NULL). 0 of another number", x -> {
      ready(x);
      for (Sentences.Call call : REFUSALS) call.on(x);
      for (int i = 0; i < 5; i++) x.refused(OrreryWorks.BAD, x.register(4));
      for (int refusal = OrreryWorks.NULL; refusal <= OrreryWorks.FULL; refusal++) x.due(1, x.often(refusal));
      for (int other : new int[] {OrreryWorks.BAD, OrreryWorks.NONE, 0, 1, 2, 3, 7, 8, 10, OrreryWorks.NULL - 1, -12, -18,
          LEAST, LEAST + 1, GREATEST}) {
        x.due(0, x.often(other));
      }
      x.due(OrreryWorks.BAD, x.refused());
    });
  }

  private static void refusedIsTheLatest() {
    sentences.holds("refused: Why the latest call was refused", x -> {
      ready(x);
      for (int a = 0; a < REFUSALS.length; a++) {
        for (int b = 0; b < REFUSALS.length; b++) {
          REFUSALS[a].on(x);
          REFUSALS[b].on(x);
          x.due(OrreryWorks.FULL - b, x.refused());
        }
        x.tear(9);
        x.due(OrreryWorks.BAD, x.refused());
      }
    });
  }

  private static void refusedIsZeroAfterEachCall() {
    Sentences.Call[] calls = {
      x -> x.wheel(3, Trial.d(8.0)), x -> x.turn(0, Trial.d(1.0)), x -> x.wheelOf(0, 0), x -> x.register(0),
      x -> x.load(0, 0, 1L), x -> x.read(0, 0), x -> x.move(0, 0), x -> x.take(0, 0), x -> x.work(0, 0, 0, 0),
      x -> x.strip(3, 1), x -> x.kept(0, 3, 0), x -> x.keep(0, 3, 0, 0), x -> x.rests(0, 0), x -> x.pointer(0, 0),
      x -> x.stand(0, 2), x -> x.set(0, 0, 0), x -> x.set(0, 1, OrreryWorks.NONE), x -> x.hang(0, 0, 0),
      x -> x.hang(0, 1, OrreryWorks.NONE), x -> x.show(0, 0), x -> x.all(0), x -> x.tear(0), x -> x.tear(0)};
    for (int i = 0; i < calls.length; i++) {
      int upTo = i;
      sentences.holds("refused: 0: it was not (call " + i + ")", x -> {
        for (int j = 0; j < upTo; j++) calls[j].on(x);
        x.refused(OrreryWorks.BAD, x.register(-1));
        calls[upTo].on(x);
        x.due(0, x.refused());
        x.due(0, x.often(OrreryWorks.BAD));
        for (int refusal = OrreryWorks.NULL; refusal <= OrreryWorks.FULL; refusal++) x.due(0, x.often(refusal));
      });
    }
  }

  private static void refusedStays() {
    sentences.holds("refused: the latest call but count(), often(), refused()", x -> {
      ready(x);
      for (int i = 0; i < REFUSALS.length; i++) {
        REFUSALS[i].on(x);
        int why = OrreryWorks.FULL - i;
        for (int what = -1; what <= 5; what++) {
          x.count(what);
          x.due(why, x.refused());
        }
        x.often(why);
        x.due(why, x.refused());
        x.often(OrreryWorks.BAD);
        x.due(why, x.refused());
        x.often(7);
        x.due(why, x.refused());
        x.due(why, x.refused());
      }
    });
  }

  private static void objectsApart() {
    sentences.holds("A new object: Nothing of another one's is in it", x -> {
      ready(x);
      for (Sentences.Call call : REFUSALS) call.on(x);
      Trial other = x.twin();
      x.due(0, other.refused());
      for (int what = 0; what <= 4; what++) x.due(0, other.count(what));
      for (int refusal = OrreryWorks.NULL; refusal <= OrreryWorks.FULL; refusal++) x.due(0, other.often(refusal));
      other.register(0);
      other.load(0, 0, 5L);
      x.accepted(0L, x.read(0, 0));
      x.due(1, x.often(OrreryWorks.NULL));
    });
  }
}
