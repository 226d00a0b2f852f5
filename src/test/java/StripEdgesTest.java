/** "==== 3 STRIPS" of the terms, and promises 11 (strip) to 15 (rests), sentence by sentence. */
public final class StripEdgesTest {
  private static final Sentences sentences = new Sentences();
  private static final int INT = 0, LONG = 1, FLOAT = 2, DOUBLE = 3;
  private static final double ENDLESS = Trial.ENDLESS;

  public static void main(String[] args) {
    atMostEight();
    places();
    indexes();
    lanes();
    gone();
    keepsCopies();
    howManyRests();
    goneBy();
    added();
    held();
    restsRefused();
    sentences.end();
  }

  /** Registers 0 .. 3 of kinds 0 .. 3. */
  private static void registers(Trial x) {
    for (int kind = 0; kind <= 3; kind++) x.register(kind);
  }

  private static void atMostEight() {
    sentences.holds("STRIPS, 8 at most", x -> {
      for (int i = 0; i < 8; i++) {
        x.due(i, x.count(2));
        x.accepted(i, x.strip(i % 4, i));
      }
      for (int lane = 0; lane <= 3; lane++) x.refused(OrreryWorks.FULL, x.strip(lane, 0));
      x.due(8, x.count(2));
    });
    sentences.holds("STRIPS, 8 at most: those that are GONE are still among them", x -> {
      for (int i = 0; i < 8; i++) {
        x.accepted(i, x.strip(3, 16));
        x.accepted(1, x.tear(i));
      }
      x.due(8, x.count(2));
      x.refused(OrreryWorks.FULL, x.strip(3, 16));
      for (int i = 0; i < 8; i++) x.accepted(0, x.tear(i));
      x.refused(OrreryWorks.BAD, x.tear(8));
    });
    sentences.holds("STRIPS, 8 at most: those that were BAD are none", x -> {
      for (int i = 0; i < 20; i++) x.refused(OrreryWorks.BAD, x.strip(0, 17));
      for (int i = 0; i < 8; i++) x.accepted(i, x.strip(0, 16));
      x.refused(OrreryWorks.FULL, x.strip(0, 16));
    });
  }

  private static void places() {
    for (int lane = 0; lane <= 3; lane++) {
      int of = lane;
      sentences.holds("STRIPS with 0 to 16 PLACES", x -> {
        x.refused(OrreryWorks.BAD, x.strip(of, -1));
        x.accepted(0, x.strip(of, 0));
        x.accepted(1, x.strip(of, 1));
        x.accepted(2, x.strip(of, 15));
        x.accepted(3, x.strip(of, 16));
        x.refused(OrreryWorks.BAD, x.strip(of, 17));
        x.due(4, x.count(2));
      });
      sentences.holds("PLACES, all 0 at first", x -> {
        x.strip(of, 16);
        for (int i = 0; i < 16; i++) x.accepted(0L, x.kept(0, of, i));
        x.refused(OrreryWorks.INDEX, x.kept(0, of, 16));
      });
    }
  }

  private static void indexes() {
    for (int lane = 0; lane <= 3; lane++) {
      int of = lane;
      for (int places : new int[] {0, 1, 2, 15, 16}) {
        sentences.holds("keep, kept: PLACE i of a STRIP with n PLACES is 0 to n - 1; INDEX", x -> {
          registers(x);
          x.strip(of, places);
          for (int i = 0; i < places; i++) {
            x.load(INT, INT, 10L + i);
            x.accepted(1, x.keep(0, of, i, INT));
          }
          for (int i : new int[] {-1, places, Integer.MIN_VALUE, Integer.MAX_VALUE}) {
            x.refused(OrreryWorks.INDEX, x.keep(0, of, i, INT));
            x.refused(OrreryWorks.INDEX, x.kept(0, of, i));
          }
          for (int i = 0; i < places; i++) {
            x.load(of, INT, 10L + i);
            x.accepted(x.read(of, of), x.kept(0, of, i));
          }
          x.due(8, x.often(OrreryWorks.INDEX));
        });
      }
    }
  }

  private static void lanes() {
    for (int lane = 0; lane <= 3; lane++) {
      int of = lane;
      sentences.holds("keep, kept: CAST: it is of another LANE; then INDEX", x -> {
        registers(x);
        x.strip(of, 1);
        x.load(of, INT, 3L);
        x.accepted(1, x.keep(0, of, 0, of));
        for (int as = 0; as <= 3; as++) {
          for (int i = -1; i <= 1; i++) {
            int why = as != of ? OrreryWorks.CAST : i != 0 ? OrreryWorks.INDEX : 0;
            if (why == 0) {
              x.accepted(1, x.keep(0, as, i, as));
              x.accepted(x.read(of, of), x.kept(0, as, i));
            } else {
              x.refused(why, x.keep(0, as, i, as));
              x.refused(why, x.kept(0, as, i));
            }
          }
        }
        x.due(18, x.often(OrreryWorks.CAST));
        x.due(4, x.often(OrreryWorks.INDEX));
      });
    }
    sentences.holds("keep: BAD, then CAST, then INDEX", x -> {
      registers(x);
      x.strip(0, 1);
      x.refused(OrreryWorks.BAD, x.keep(0, 4, 9, 0));
      x.refused(OrreryWorks.BAD, x.keep(0, -1, 9, 0));
      x.refused(OrreryWorks.BAD, x.keep(0, 1, 9, 4));
      x.refused(OrreryWorks.BAD, x.keep(1, 1, 9, 0));
      x.refused(OrreryWorks.CAST, x.keep(0, 1, 9, 0));
      x.refused(OrreryWorks.INDEX, x.keep(0, 0, 9, 0));
      x.refused(OrreryWorks.BAD, x.kept(0, 4, 9));
      x.refused(OrreryWorks.BAD, x.kept(1, 1, 9));
      x.refused(OrreryWorks.CAST, x.kept(0, 1, 9));
      x.refused(OrreryWorks.INDEX, x.kept(0, 0, 9));
    });
  }

  private static void gone() {
    sentences.holds("tear: A STRIP is GONE: 1; 0: it was", x -> {
      registers(x);
      for (int lane = 0; lane <= 3; lane++) x.strip(lane, lane);
      for (int i = 0; i <= 3; i++) {
        x.accepted(1, x.tear(i));
        x.accepted(0, x.tear(i));
        x.accepted(0, x.tear(i));
      }
      x.refused(OrreryWorks.BAD, x.tear(4));
      x.refused(OrreryWorks.BAD, x.tear(-1));
      x.due(4, x.count(2));
      for (int refusal = OrreryWorks.NULL; refusal <= OrreryWorks.FULL; refusal++) x.due(0, x.often(refusal));
    });
    sentences.holds("tear: a STRIP is GONE, the others stay; its number is not given again", x -> {
      registers(x);
      x.load(INT, INT, 5L);
      for (int i = 0; i < 3; i++) {
        x.strip(INT, 1);
        x.keep(i, INT, 0, INT);
      }
      x.accepted(1, x.tear(1));
      x.accepted(5L, x.kept(0, INT, 0));
      x.refused(OrreryWorks.NULL, x.kept(1, INT, 0));
      x.accepted(5L, x.kept(2, INT, 0));
      x.accepted(3, x.strip(INT, 1));
      x.refused(OrreryWorks.NULL, x.kept(1, INT, 0));
    });
    for (int lane = 0; lane <= 3; lane++) {
      int of = lane;
      sentences.holds("NULL: it is GONE (GONE ones are of none), whatever its LANE was, and whatever i is", x -> {
        registers(x);
        x.strip(of, 2);
        x.tear(0);
        for (int as = 0; as <= 3; as++) {
          for (int i = -1; i <= 2; i++) {
            x.refused(OrreryWorks.NULL, x.keep(0, as, i, 0));
            x.refused(OrreryWorks.NULL, x.kept(0, as, i));
          }
          x.refused(OrreryWorks.NULL, x.rests(0, as));
        }
        x.due(36, x.often(OrreryWorks.NULL));
        x.due(0, x.often(OrreryWorks.CAST));
        x.due(0, x.often(OrreryWorks.INDEX));
        x.refused(OrreryWorks.BAD, x.keep(0, 4, 0, 0));
        x.refused(OrreryWorks.BAD, x.keep(0, of, 0, 4));
        x.refused(OrreryWorks.BAD, x.kept(0, -1, 0));
        x.refused(OrreryWorks.BAD, x.rests(0, 4));
      });
    }
  }

  private static void keepsCopies() {
    sentences.holds("keep: PLACE i gets a REGISTER's value: what the REGISTER holds later is no matter", x -> {
      registers(x);
      x.strip(DOUBLE, 2);
      x.load(DOUBLE, DOUBLE, Trial.d(-0.0));
      x.accepted(1, x.keep(0, DOUBLE, 1, DOUBLE));
      x.load(DOUBLE, DOUBLE, Trial.d(2.0));
      x.accepted(0L, x.kept(0, DOUBLE, 0));
      x.accepted(Trial.d(-0.0), x.kept(0, DOUBLE, 1));
      x.accepted(1, x.keep(0, DOUBLE, 1, DOUBLE));
      x.accepted(Trial.d(2.0), x.kept(0, DOUBLE, 1));
      x.accepted(Trial.d(2.0), x.read(DOUBLE, DOUBLE));
    });
  }

  /** Strip 0, of floats or doubles, filled. */
  private static void filled(Trial x, int lane, double... values) {
    registers(x);
    x.strip(lane, values.length);
    for (int i = 0; i < values.length; i++) {
      x.load(DOUBLE, DOUBLE, Trial.d(values[i]));
      x.keep(0, lane, i, DOUBLE);
    }
    x.load(DOUBLE, DOUBLE, Trial.d(99.0));
  }

  /** Of a strip of floats and of one of doubles. */
  private static void rests(String sentence, int rests, double sum, double... values) {
    for (int lane = FLOAT; lane <= DOUBLE; lane++) restsOf(sentence, lane, rests, sum, values);
  }

  private static void restsOf(String sentence, int lane, int rests, double sum, double... values) {
    sentences.holds(sentence, x -> {
      filled(x, lane, values);
      String before = places(x, lane);
      x.accepted(rests, x.rests(0, DOUBLE));
      x.accepted(Trial.d(sum), x.read(DOUBLE, DOUBLE));
      x.same(before, places(x, lane));
    });
  }

  private static String places(Trial x, int lane) {
    StringBuilder text = new StringBuilder();
    for (int i = 0; i <= 16; i++) text.append(x.kept(0, lane, i)).append(' ');
    return text.toString();
  }

  private static void howManyRests() {
    String each = "rests: the rest of each PLACE by the next one: how many there were";
    rests(each + ": none of no PLACES", 0, 0.0);
    rests(each + ": none of one PLACE", 0, 0.0, 7.0);
    rests(each + ": one of two PLACES, for the last one has no next", 1, 1.0, 7.0, 3.0);
    rests(each + ": one of two PLACES, for the last one has no next", 1, 3.0, 3.0, 7.0);
    rests(each + ": two of three PLACES", 2, 4.0, 7.0, 3.0, 5.0);
    rests(each + ": 15 of 16 PLACES", 15, 120.0, 1.0, 2.0, 3.0, 4.0, 5.0, 6.0, 7.0, 8.0, 9.0, 10.0, 11.0, 12.0, 13.0, 14.0,
        15.0, 16.0);
    rests(each + ": a rest that is 0.0 is one", 2, 0.0, 6.0, 3.0, 3.0);
  }

  private static void goneBy() {
    String next = "rests: a PLACE whose next is 0 is gone by";
    rests(next, 0, 0.0, 7.0, 0.0);
    rests(next + ", with a sign too", 0, 0.0, 7.0, -0.0);
    rests(next + ", of all 0", 0, 0.0, 0.0, 0.0, 0.0);
    rests(next + ", one beside 0 is not", 1, 0.0, 7.0, Float.MIN_VALUE);
    rests(next + ", one beside 0 is not", 1, 0.0, 7.0, -Float.MIN_VALUE);
    rests(next + ", the PLACE that is 0 itself is not", 1, 0.0, 0.0, 7.0);
    rests(next + ", and the PLACES after it go on", 3, 2.0, 7.0, 0.0, 5.0, 3.0, 0.0, 1.0);
    String endless = "rests: a PLACE that is endless is gone by";
    rests(endless, 0, 0.0, ENDLESS, 7.0);
    rests(endless + ", with a sign too", 0, 0.0, -ENDLESS, 7.0);
    rests(endless + ", by an endless one too", 0, 0.0, ENDLESS, -ENDLESS);
    rests(endless + ", by 0 too", 0, 0.0, ENDLESS, 0.0);
    rests(endless + ", the greatest one is not", 1, (double) (Float.MAX_VALUE % 7.0f), Float.MAX_VALUE, 7.0);
    rests(endless + ", one whose next is endless is not", 1, 7.0, 7.0, ENDLESS);
    rests(endless + ", one whose next is endless is not", 1, -7.0, -7.0, -ENDLESS);
    rests(endless + ", one that is 0 and whose next is endless is not", 1, 0.0, 0.0, ENDLESS);
    rests(endless + ", and the PLACES after it go on", 2, 9.0, 7.0, ENDLESS, 5.0, 3.0);
    rests(endless + ", as the last one it has no rest anyway", 2, 4.0, 7.0, 3.0, ENDLESS);
  }

  private static void added() {
    String sign = "rests: of each PLACE the rest has its sign";
    rests(sign, 1, -1.0, -7.0, 3.0);
    rests(sign, 1, 1.0, 7.0, -3.0);
    rests(sign, 1, -1.0, -7.0, -3.0);
    String from = "rests: the rests added, from 0.0 on";
    rests(from + ": a -0.0 alone comes to 0.0", 1, 0.0, -6.0, 3.0);
    rests(from + ": many of them too", 2, 0.0, -6.0, -3.0, 3.0);
    rests(from + ": to and fro", 2, 0.0, 4.0, -9.0, 5.0);
    String kind = "rests: added in its KIND";
    restsOf(kind, FLOAT, 3, 16777216.0, 0x1p24, ENDLESS, 1.0, ENDLESS, 1.0, ENDLESS);
    restsOf(kind, DOUBLE, 3, 16777218.0, 0x1p24, ENDLESS, 1.0, ENDLESS, 1.0, ENDLESS);
    restsOf(kind, FLOAT, 3, 16777218.0, 1.0, ENDLESS, 1.0, ENDLESS, 0x1p24, ENDLESS);
    restsOf(kind, DOUBLE, 2, 0x1p53, 0x1p53, ENDLESS, 1.0, ENDLESS);
    String far = "rests: the sum may come to an endless one";
    restsOf(far, FLOAT, 2, ENDLESS, Float.MAX_VALUE, ENDLESS, 0x1p103, ENDLESS);
    restsOf(far + ", or just not", FLOAT, 2, Float.MAX_VALUE, Float.MAX_VALUE, ENDLESS, 0x1.fffffep102, ENDLESS);
    restsOf(far, DOUBLE, 2, -ENDLESS, -Double.MAX_VALUE, ENDLESS, -0x1p970, ENDLESS);
    restsOf(far + ", or just not", DOUBLE, 2, -Double.MAX_VALUE, -Double.MAX_VALUE, ENDLESS, -0x1.fffffffffffffp969, ENDLESS);
    restsOf(far + ", and stays so", DOUBLE, 3, ENDLESS, Double.MAX_VALUE, ENDLESS, Double.MAX_VALUE, ENDLESS,
        -Double.MAX_VALUE, ENDLESS);
    restsOf(far + ", not in doubles", DOUBLE, 2, 0x1p128, 0x1p127, ENDLESS, 0x1p127, ENDLESS);
    restsOf("rests: by the least doubles", DOUBLE, 1, 0x1p-1073, Double.MAX_VALUE, 0x1.8p-1073);
  }

  private static void held() {
    sentences.holds("rests: A REGISTER holds them, CAST", x -> {
      filled(x, DOUBLE, -0x1p40, ENDLESS, -1.75, ENDLESS);
      long[] want = {Integer.MIN_VALUE, -0x10000000001L, Trial.f(-0x1p40f), Trial.d(-0x1p40 - 1.75)};
      for (int kind = 0; kind <= 3; kind++) {
        x.accepted(2, x.rests(0, kind));
        x.accepted(want[kind], x.read(kind, kind));
      }
    });
    sentences.holds("rests: A REGISTER holds 0, if there are none", x -> {
      registers(x);
      x.strip(FLOAT, 0);
      for (int kind = 0; kind <= 3; kind++) {
        x.load(kind, DOUBLE, Trial.d(-9.0));
        x.accepted(0, x.rests(0, kind));
        x.accepted(0L, x.read(kind, kind));
      }
    });
  }

  private static void restsRefused() {
    sentences.holds("rests: BAD; CAST: it is of ints, longs; NULL", x -> {
      registers(x);
      for (int lane = 0; lane <= 3; lane++) x.strip(lane, 2);
      x.load(DOUBLE, DOUBLE, Trial.d(9.0));
      x.refused(OrreryWorks.BAD, x.rests(4, DOUBLE));
      x.refused(OrreryWorks.BAD, x.rests(-1, DOUBLE));
      x.refused(OrreryWorks.BAD, x.rests(INT, 4));
      x.refused(OrreryWorks.BAD, x.rests(DOUBLE, -1));
      x.refused(OrreryWorks.CAST, x.rests(INT, DOUBLE));
      x.refused(OrreryWorks.CAST, x.rests(LONG, DOUBLE));
      x.tear(INT);
      x.refused(OrreryWorks.NULL, x.rests(INT, DOUBLE));
      x.accepted(Trial.d(9.0), x.read(DOUBLE, DOUBLE));
      x.accepted(0, x.rests(FLOAT, DOUBLE));
      x.accepted(0, x.rests(DOUBLE, DOUBLE));
    });
  }
}
