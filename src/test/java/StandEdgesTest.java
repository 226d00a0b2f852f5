/** "==== 4 POINTERS" and "STANDS" of the terms, and promises 16 (pointer) to 21 (all), sentence by sentence. */
public final class StandEdgesTest {
  private static final Sentences sentences = new Sentences();
  private static final int COARSE = 0, FINE = 1, VERNIER = 2, LAMP = 3;
  private static final int FLOATS = 2, DOUBLES = 3;
  private static final int NONE = OrreryWorks.NONE, CAST = OrreryWorks.CAST, STORE = OrreryWorks.STORE;
  private static final int LEAST_INT = Integer.MIN_VALUE, GREATEST_INT = Integer.MAX_VALUE;
  private static final long LEAST_LONG = Long.MIN_VALUE, GREATEST_LONG = Long.MAX_VALUE;
  private static final double ENDLESS = Trial.ENDLESS;

  public static void main(String[] args) {
    atMostTwelve();
    atMostEight();
    coarse();
    fine();
    vernier();
    lamp();
    ofAWheel();
    places();
    set();
    hang();
    orderOfRefusals();
    show();
    all();
    allWraps();
    sentences.end();
  }

  private static void atMostTwelve() {
    sentences.holds("POINTERS, 12 at most", x -> {
      x.wheel(2, Trial.d(1.0));
      for (int i = 0; i < 12; i++) {
        x.due(i, x.count(3));
        x.accepted(i, x.pointer(i % 4, 0));
      }
      for (int sort = 0; sort <= 3; sort++) x.refused(OrreryWorks.FULL, x.pointer(sort, 0));
      x.due(12, x.count(3));
    });
    sentences.holds("POINTERS, 12 at most: those that were BAD are none", x -> {
      x.wheel(2, Trial.d(1.0));
      for (int i = 0; i < 20; i++) x.refused(OrreryWorks.BAD, i % 2 == 0 ? x.pointer(4, 0) : x.pointer(0, 1));
      for (int i = 0; i < 12; i++) x.accepted(i, x.pointer(0, 0));
      x.refused(OrreryWorks.FULL, x.pointer(0, 0));
    });
    sentences.holds("pointer: of a sort 0 .. 3, of a WHEEL; BAD", x -> {
      x.refused(OrreryWorks.BAD, x.pointer(0, 0));
      for (int i = 0; i < 10; i++) x.wheel(2, Trial.d(1.0));
      x.refused(OrreryWorks.BAD, x.pointer(-1, 0));
      x.accepted(0, x.pointer(0, 0));
      x.accepted(1, x.pointer(3, 9));
      x.refused(OrreryWorks.BAD, x.pointer(4, 0));
      x.refused(OrreryWorks.BAD, x.pointer(0, 10));
      x.refused(OrreryWorks.BAD, x.pointer(0, -1));
    });
  }

  private static void atMostEight() {
    sentences.holds("STANDS, 8 at most", x -> {
      for (int i = 0; i < 8; i++) {
        x.due(i, x.count(4));
        x.accepted(i, x.stand(i % 4, 1 + i % 6));
      }
      for (int sort = 0; sort <= 3; sort++) x.refused(OrreryWorks.FULL, x.stand(sort, 1));
      x.due(8, x.count(4));
    });
    sentences.holds("STANDS, 8 at most: those that were BAD are none", x -> {
      for (int i = 0; i < 20; i++) x.refused(OrreryWorks.BAD, i % 2 == 0 ? x.stand(4, 1) : x.stand(0, 0));
      for (int i = 0; i < 8; i++) x.accepted(i, x.stand(0, 1));
      x.refused(OrreryWorks.FULL, x.stand(0, 1));
    });
  }

  /** What a pointer of a wheel with an endless turn shows, once it has been turned by this. */
  private static void shown(String sentence, int sort, int kind, double position, long want) {
    sentences.holds(sentence + " (" + position + " of " + kind + ")", x -> {
      x.wheel(kind, Trial.d(ENDLESS));
      x.pointer(sort, 0);
      x.stand(3, 1);
      x.hang(0, 0, 0);
      x.turn(0, Trial.d(position));
      x.accepted(want, x.show(0, 0));
      x.accepted(want, x.all(0));
    });
  }

  private static void coarse() {
    String sentence = "COARSE shows its POSITION CAST to an int";
    for (int kind = FLOATS; kind <= DOUBLES; kind++) {
      shown(sentence, COARSE, kind, 0x1.fffffep-1, 0);
      shown(sentence, COARSE, kind, -0x1.fffffep-1, 0);
      shown(sentence, COARSE, kind, 1.0, 1);
      shown(sentence, COARSE, kind, -1.5, -1);
      shown(sentence, COARSE, kind, 0x1.fffffep30, 2147483520);
      shown(sentence, COARSE, kind, 0x1p31, GREATEST_INT);
      shown(sentence, COARSE, kind, -0x1p31, LEAST_INT);
      shown(sentence, COARSE, kind, 0x1p100, GREATEST_INT);
      shown(sentence, COARSE, kind, -0x1p100, LEAST_INT);
    }
    shown(sentence, COARSE, DOUBLES, 2147483646.9999998, 2147483646);
    shown(sentence, COARSE, DOUBLES, -2147483648.5, LEAST_INT);
    shown(sentence, COARSE, DOUBLES, -2147483649.0, LEAST_INT);
  }

  private static void fine() {
    String sentence = "FINE shows its POSITION as a double times 1000.0 (in doubles), CAST to a long";
    for (int kind = FLOATS; kind <= DOUBLES; kind++) {
      shown(sentence, FINE, kind, 0.0, 0);
      shown(sentence, FINE, kind, 0x1p-10, 0);
      shown(sentence, FINE, kind, 0x1.8p-10, 1);
      shown(sentence, FINE, kind, -0x1.8p-10, -1);
      shown(sentence, FINE, kind, -0x1p-10, 0);
      shown(sentence, FINE, kind, 0x1p40, 1099511627776000L);
      shown(sentence, FINE, kind, 0x1p60, GREATEST_LONG);
      shown(sentence, FINE, kind, -0x1p60, LEAST_LONG);
      shown(sentence, FINE, kind, 0x1p127, GREATEST_LONG);
    }
    // In floats this would come to 9.0.
    shown(sentence, FINE, FLOATS, 0.009, 8);
    shown(sentence, FINE, DOUBLES, 0.009, 9);
    // In floats 1000 times this is rounded.
    shown(sentence, FINE, FLOATS, 16777215.0, 16777215000L);
    // The last one below the longs' end, and the first one at it.
    shown(sentence, FINE, DOUBLES, 0x1.0624dd2f1a9fbp53, 9223372036854773760L);
    shown(sentence, FINE, DOUBLES, 0x1.0624dd2f1a9fcp53, GREATEST_LONG);
    shown(sentence, FINE, DOUBLES, -0x1.0624dd2f1a9fbp53, -9223372036854773760L);
    shown(sentence, FINE, DOUBLES, -0x1.0624dd2f1a9fcp53, LEAST_LONG);
    shown(sentence + ": it may come to an endless one", FINE, DOUBLES, Double.MAX_VALUE, GREATEST_LONG);
    shown(sentence + ": it may come to an endless one", FINE, DOUBLES, -Double.MAX_VALUE, LEAST_LONG);
    shown(sentence, FINE, DOUBLES, Double.MIN_VALUE, 0);
  }

  private static void vernier() {
    String sentence = "a VERNIER: what FINE shows, CAST to a float, as BITS";
    for (int kind = FLOATS; kind <= DOUBLES; kind++) {
      shown(sentence, VERNIER, kind, 0.0, 0);
      shown(sentence, VERNIER, kind, 1.0, Trial.f(1000.0f));
      shown(sentence, VERNIER, kind, -1.0, Trial.f(-1000.0f));
      // FINE shows a long: no part of one, and no 0 with a sign.
      shown(sentence, VERNIER, kind, 0x1.8p-10, Trial.f(1.0f));
      shown(sentence, VERNIER, kind, -0x1.8p-10, Trial.f(-1.0f));
      shown(sentence, VERNIER, kind, -0x1p-10, 0);
      shown(sentence, VERNIER, kind, 0x1p100, Trial.f(0x1p63f));
      shown(sentence, VERNIER, kind, -0x1p100, Trial.f(-0x1p63f));
    }
    shown(sentence, VERNIER, DOUBLES, 16777.216, Trial.f(16777216.0f));
    shown(sentence, VERNIER, DOUBLES, 16777.2175, Trial.f(16777216.0f));
    shown(sentence, VERNIER, DOUBLES, 16777.219, Trial.f(16777220.0f));
  }

  private static void lamp() {
    String sentence = "a LAMP: 1, if its POSITION is below 0.0 or 0.0 with that sign, else 0";
    for (int kind = FLOATS; kind <= DOUBLES; kind++) {
      double least = kind == FLOATS ? Float.MIN_VALUE : Double.MIN_VALUE;
      shown(sentence, LAMP, kind, 0.0, 0);
      shown(sentence, LAMP, kind, least, 0);
      shown(sentence, LAMP, kind, -least, 1);
      shown(sentence, LAMP, kind, 0x1p127, 0);
      shown(sentence, LAMP, kind, -0x1p127, 1);
      int of = kind;
      sentences.holds(sentence + ": at both zeros", x -> {
        x.wheel(of, Trial.d(-2.0));
        x.pointer(LAMP, 0);
        x.stand(3, 1);
        x.hang(0, 0, 0);
        x.accepted(0, x.show(0, 0));
        x.turn(0, Trial.d(-2.0));
        x.accepted(1, x.show(0, 0));
        x.turn(0, Trial.d(-0.0));
        x.accepted(1, x.show(0, 0));
        x.turn(0, Trial.d(0.0));
        x.accepted(0, x.show(0, 0));
        x.turn(0, Trial.d(2.0));
        x.accepted(0, x.show(0, 0));
      });
    }
    sentences.holds("what is 0.0 with a sign is 0 to all HANDS", x -> {
      x.wheel(DOUBLES, Trial.d(2.0));
      x.turn(0, Trial.d(-2.0));
      x.stand(0, 3);
      for (int sort = COARSE; sort <= VERNIER; sort++) {
        x.pointer(sort, 0);
        x.set(0, sort, sort);
        x.accepted(0L, x.show(0, sort));
      }
    });
  }

  private static void ofAWheel() {
    sentences.holds("a POINTER of a WHEEL shows where that WHEEL is now, no other one", x -> {
      for (int i = 0; i < 10; i++) x.wheel(3, Trial.d(100.0));
      for (int i = 0; i < 10; i++) x.accepted(i, x.pointer(COARSE, 9 - i));
      x.stand(0, 6);
      x.stand(0, 4);
      for (int i = 0; i < 10; i++) x.accepted(1, x.set(i / 6, i % 6, i));
      for (int i = 0; i < 10; i++) x.accepted(0, x.show(i / 6, i % 6));
      for (int i = 0; i < 10; i++) x.turn(i, Trial.d(10.0 + i));
      for (int i = 0; i < 10; i++) x.accepted(19 - i, x.show(i / 6, i % 6));
      x.refused(OrreryWorks.SPUN, x.turn(9, Trial.d(ENDLESS)));
      x.accepted(19, x.show(0, 0));
      x.turn(9, Trial.d(-20.0));
      x.accepted(-1, x.show(0, 0));
    });
  }

  private static void places() {
    for (int sort = 0; sort <= 3; sort++) {
      int of = sort;
      sentences.holds("STANDS are rows of 1 to 6 PLACES", x -> {
        x.refused(OrreryWorks.BAD, x.stand(of, 0));
        x.refused(OrreryWorks.BAD, x.stand(of, -1));
        x.accepted(0, x.stand(of, 1));
        x.accepted(1, x.stand(of, 6));
        x.refused(OrreryWorks.BAD, x.stand(of, 7));
        x.due(2, x.count(4));
      });
      for (int n = 1; n <= 6; n++) {
        int places = n;
        sentences.holds("PLACE i of a STAND with n PLACES is 0 to n - 1; INDEX; bare at first", x -> {
          x.wheel(3, Trial.d(100.0));
          x.pointer(VERNIER, 0);
          x.stand(of, places);
          for (int i = 0; i < places; i++) x.refused(OrreryWorks.NULL, x.show(0, i));
          for (int i : new int[] {-1, places, LEAST_INT, GREATEST_INT}) {
            x.refused(OrreryWorks.INDEX, x.show(0, i));
            x.refused(OrreryWorks.INDEX, x.hang(0, i, 0));
            x.refused(OrreryWorks.INDEX, x.hang(0, i, NONE));
            x.refused(of == 3 ? CAST : OrreryWorks.INDEX, x.set(0, i, 0));
            x.refused(of == 3 ? CAST : OrreryWorks.INDEX, x.set(0, i, NONE));
          }
          x.turn(0, Trial.d(1.0));
          for (int i = 0; i < places; i++) {
            x.accepted(1, x.hang(0, i, 0));
            for (int j = 0; j < places; j++) {
              if (j <= i) x.accepted(Trial.f(1000.0f), x.show(0, j));
              else x.refused(OrreryWorks.NULL, x.show(0, j));
            }
          }
        });
      }
    }
  }

  /** Wheel 0 at -1.5; pointers 0 .. 3 of sorts 0 .. 3; stand 0 of a sort, its place 1 bearing a vernier. */
  private static void oneStand(Trial x, int sort) {
    x.wheel(3, Trial.d(100.0));
    x.turn(0, Trial.d(-1.5));
    for (int i = 0; i <= 3; i++) x.pointer(i, 0);
    x.stand(sort, 3);
    x.hang(0, 1, VERNIER);
  }

  /** By their sorts, what the four pointers show there. */
  private static final long[] SHOWN = {-1L, -1500L, Trial.f(-1500.0f), 1L};

  private static void put(String sentence, int stand, int pointer, int want, boolean asHands) {
    sentences.holds(sentence + " (" + pointer + " on " + stand + ")", x -> {
      oneStand(x, stand);
      for (int i = 0; i <= 2; i++) {
        long got = asHands ? x.set(0, i, pointer) : x.hang(0, i, pointer);
        if (want == 1) {
          x.accepted(1, got);
          x.accepted(SHOWN[pointer], x.show(0, i));
        } else {
          x.refused(want, got);
          if (i == 1) x.accepted(SHOWN[VERNIER], x.show(0, i));
          else x.refused(OrreryWorks.NULL, x.show(0, i));
        }
      }
    });
  }

  private static void set() {
    int[][] want = {{1, 1, 1, CAST}, {STORE, 1, 1, CAST}, {STORE, STORE, 1, CAST}, {CAST, CAST, CAST, CAST}};
    String[] sentence = {"a STAND of HANDS takes COARSE, FINE, VERNIER; a LAMP is none",
        "a STAND of FINE ones takes a VERNIER, which is FINE, too; COARSE is too wide for it",
        "a STAND of VERNIERS takes those alone", "set: 3 does not go as a row of HANDS"};
    for (int stand = 0; stand <= 3; stand++) {
      for (int pointer = 0; pointer <= 3; pointer++) put(sentence[stand], stand, pointer, want[stand][pointer], true);
      int of = stand;
      sentences.holds("set: or nothing (NONE): 1", x -> {
        oneStand(x, of);
        for (int i = 0; i <= 2; i++) {
          if (of == 3) x.refused(CAST, x.set(0, i, NONE));
          else x.accepted(1, x.set(0, i, NONE));
        }
        for (int i = 0; i <= 2; i++) {
          if (of == 3 && i == 1) x.accepted(SHOWN[VERNIER], x.show(0, i));
          else x.refused(OrreryWorks.NULL, x.show(0, i));
        }
      });
    }
  }

  private static void hang() {
    int[][] want = {{1, 1, 1, STORE}, {STORE, 1, 1, STORE}, {STORE, STORE, 1, STORE}, {1, 1, 1, 1}};
    String sentence = "hang: all STANDS go as rows of what is SHOWING; STORE: the STAND is too narrow for it";
    for (int stand = 0; stand <= 3; stand++) {
      for (int pointer = 0; pointer <= 3; pointer++) put(sentence, stand, pointer, want[stand][pointer], false);
      int of = stand;
      sentences.holds("hang: or nothing (NONE): 1", x -> {
        oneStand(x, of);
        for (int i = 0; i <= 2; i++) {
          x.accepted(1, x.hang(0, i, NONE));
          x.refused(OrreryWorks.NULL, x.show(0, i));
        }
      });
    }
    sentences.holds("a POINTER may stand at many PLACES; taking it from one leaves the others", x -> {
      oneStand(x, 0);
      x.stand(3, 1);
      x.set(0, 0, COARSE);
      x.set(0, 2, COARSE);
      x.hang(1, 0, COARSE);
      x.accepted(1, x.set(0, 0, NONE));
      x.refused(OrreryWorks.NULL, x.show(0, 0));
      x.accepted(-1, x.show(0, 2));
      x.accepted(-1, x.show(1, 0));
      x.accepted(1, x.hang(0, 2, FINE));
      x.accepted(-1500, x.show(0, 2));
      x.accepted(-1, x.show(1, 0));
    });
  }

  private static void orderOfRefusals() {
    sentences.holds("set: BAD; CAST: either is none; INDEX; STORE", x -> {
      oneStand(x, 2);
      x.stand(3, 1);
      x.refused(OrreryWorks.BAD, x.set(2, 9, LAMP));
      x.refused(OrreryWorks.BAD, x.set(-1, 9, LAMP));
      x.refused(OrreryWorks.BAD, x.set(1, 9, 4));
      x.refused(OrreryWorks.BAD, x.set(1, 9, -2));
      x.refused(CAST, x.set(1, 9, LAMP));
      x.refused(CAST, x.set(1, 9, COARSE));
      x.refused(CAST, x.set(0, 9, LAMP));
      x.refused(OrreryWorks.INDEX, x.set(0, 9, COARSE));
      x.refused(STORE, x.set(0, 0, COARSE));
      x.accepted(1, x.set(0, 0, VERNIER));
    });
    sentences.holds("hang: BAD; INDEX; STORE", x -> {
      oneStand(x, 2);
      x.refused(OrreryWorks.BAD, x.hang(1, 9, LAMP));
      x.refused(OrreryWorks.BAD, x.hang(0, 9, 4));
      x.refused(OrreryWorks.BAD, x.hang(0, 9, -2));
      x.refused(OrreryWorks.INDEX, x.hang(0, 9, LAMP));
      x.refused(OrreryWorks.INDEX, x.hang(0, 3, NONE));
      x.refused(STORE, x.hang(0, 0, LAMP));
      x.accepted(1, x.hang(0, 0, NONE));
    });
  }

  private static void show() {
    sentences.holds("show: BAD; INDEX; NULL: nothing is there", x -> {
      oneStand(x, 3);
      x.refused(OrreryWorks.BAD, x.show(1, 9));
      x.refused(OrreryWorks.BAD, x.show(-1, 9));
      x.refused(OrreryWorks.INDEX, x.show(0, 3));
      x.refused(OrreryWorks.INDEX, x.show(0, -1));
      x.refused(OrreryWorks.NULL, x.show(0, 2));
      x.accepted(SHOWN[VERNIER], x.show(0, 1));
    });
    sentences.holds("show: a 0 that is shown is no refusal, a 0 of nothing is", x -> {
      oneStand(x, 3);
      x.turn(0, Trial.d(1.5));
      for (int sort = COARSE; sort <= LAMP; sort++) {
        x.hang(0, 0, sort);
        x.accepted(0, x.show(0, 0));
      }
      x.refused(OrreryWorks.NULL, x.show(0, 2));
    });
  }

  private static void all() {
    for (int sort = 0; sort <= 3; sort++) {
      int of = sort;
      sentences.holds("all: bare PLACES are gone by: of a bare STAND it is 0, and no refusal", x -> {
        x.stand(of, 6);
        x.accepted(0, x.all(0));
        x.due(0, x.often(OrreryWorks.NULL));
        x.refused(OrreryWorks.BAD, x.all(1));
        x.refused(OrreryWorks.BAD, x.all(-1));
      });
    }
    for (int n = 1; n <= 6; n++) {
      int places = n;
      sentences.holds("all: What all POINTERS on a STAND show, the first and the last one too", x -> {
        x.wheel(3, Trial.d(1000.0));
        x.pointer(COARSE, 0);
        x.stand(0, places);
        x.turn(0, Trial.d(7.0));
        for (int i = 0; i < places; i++) {
          x.set(0, i, 0);
          x.accepted(7L * (i + 1), x.all(0));
        }
        for (int i = 0; i < places; i++) {
          x.set(0, i, NONE);
          x.accepted(7L * (places - i - 1), x.all(0));
        }
      });
    }
    sentences.holds("all: each as it shows: a VERNIER by its BITS", x -> {
      oneStand(x, 3);
      x.hang(0, 0, FINE);
      x.hang(0, 2, LAMP);
      x.accepted(-1500L + Trial.f(-1500.0f) + 1L, x.all(0));
      x.hang(0, 1, COARSE);
      x.accepted(-1500L, x.all(0));
    });
  }

  private static void allWraps() {
    sentences.holds("all: in longs that wrap", x -> {
      x.wheel(3, Trial.d(ENDLESS));
      x.wheel(3, Trial.d(ENDLESS));
      x.turn(0, Trial.d(0x1p200));
      x.pointer(FINE, 0);
      x.pointer(COARSE, 1);
      x.stand(0, 2);
      x.set(0, 0, 0);
      x.set(0, 1, 1);
      x.accepted(GREATEST_LONG, x.all(0));
      x.turn(1, Trial.d(1.0));
      x.accepted(LEAST_LONG, x.all(0));
      x.turn(1, Trial.d(-2.0));
      x.accepted(GREATEST_LONG - 1L, x.all(0));
      x.turn(0, Trial.d(-0x1p201));
      x.accepted(GREATEST_LONG, x.all(0));
      x.turn(1, Trial.d(1.0));
      x.accepted(LEAST_LONG, x.all(0));
      x.set(0, 1, 0);
      x.accepted(0L, x.all(0));
    });
    sentences.holds("all: in longs, so ints do not wrap", x -> {
      x.wheel(3, Trial.d(ENDLESS));
      x.turn(0, Trial.d(0x1p31));
      x.pointer(COARSE, 0);
      x.stand(0, 6);
      for (int i = 0; i < 6; i++) x.set(0, i, 0);
      x.accepted(6L * GREATEST_INT, x.all(0));
    });
  }
}
