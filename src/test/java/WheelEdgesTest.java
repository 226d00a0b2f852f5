/** "==== 1 WHEELS" of the terms, and promises 2 (wheel), 3 (turn), 4 (wheelOf), 9 (take), sentence by sentence. */
public final class WheelEdgesTest {
  private static final Sentences sentences = new Sentences();
  private static final double ENDLESS = Trial.ENDLESS;
  private static final int LEAST_INT = Integer.MIN_VALUE, GREATEST_INT = Integer.MAX_VALUE;
  private static final int FLOATS = 2, DOUBLES = 3;

  public static void main(String[] args) {
    atMostTen();
    turnsOfWheels();
    atFirst();
    castsFirst();
    sumsInItsKind();
    spun();
    rest();
    signOfTheRest();
    turns();
    wheelOf();
    take();
    sentences.end();
  }

  private static void atMostTen() {
    for (int kind = FLOATS; kind <= DOUBLES; kind++) {
      int of = kind;
      sentences.holds("WHEELS, 10 at most", x -> {
        for (int i = 0; i < 10; i++) {
          x.due(i, x.count(0));
          x.accepted(i, x.wheel(of, Trial.d(1.0 + i)));
        }
        x.refused(OrreryWorks.FULL, x.wheel(of, Trial.d(99.0)));
        x.due(10, x.count(0));
        for (int i = 0; i < 10; i++) x.accepted(of == FLOATS ? Trial.f(1.0f + i) : Trial.d(1.0 + i), x.wheelOf(i, 1));
      });
    }
    sentences.holds("WHEELS, 10 at most: those that were BAD are none", x -> {
      for (int i = 0; i < 20; i++) x.refused(OrreryWorks.BAD, x.wheel(2 + i % 2, 0L));
      for (int i = 0; i < 10; i++) x.accepted(i, x.wheel(2 + i % 2, Trial.d(1.0)));
      x.refused(OrreryWorks.FULL, x.wheel(2, Trial.d(1.0)));
    });
  }

  private static void turnsOfWheels() {
    sentences.holds("TURN: a value of it, not 0, perhaps below: the least doubles", x -> {
      x.refused(OrreryWorks.BAD, x.wheel(DOUBLES, 0L));
      x.accepted(0, x.wheel(DOUBLES, 1L));
      x.accepted(1L, x.wheelOf(0, 1));
      x.refused(OrreryWorks.BAD, x.wheel(DOUBLES, Long.MIN_VALUE));
      x.accepted(1, x.wheel(DOUBLES, Long.MIN_VALUE + 1L));
      x.accepted(Long.MIN_VALUE + 1L, x.wheelOf(1, 1));
    });
    sentences.holds("TURN told by BITS of a double, CAST to it: the least floats", x -> {
      x.refused(OrreryWorks.BAD, x.wheel(FLOATS, Trial.d(0x1p-150)));
      x.accepted(0, x.wheel(FLOATS, Trial.d(0x1.0000000000001p-150)));
      x.accepted(1L, x.wheelOf(0, 1));
      x.refused(OrreryWorks.BAD, x.wheel(FLOATS, Trial.d(-0x1p-150)));
      x.accepted(1, x.wheel(FLOATS, Trial.d(-0x1.0000000000001p-150)));
      x.accepted(Integer.MIN_VALUE + 1L, x.wheelOf(1, 1));
      x.accepted(2, x.wheel(DOUBLES, Trial.d(0x1p-150)));
      x.accepted(Trial.d(0x1p-150), x.wheelOf(2, 1));
    });
    sentences.holds("TURN: perhaps endless", x -> {
      x.accepted(0, x.wheel(DOUBLES, Trial.d(ENDLESS)));
      x.accepted(1, x.wheel(DOUBLES, Trial.d(-ENDLESS)));
      x.accepted(2, x.wheel(FLOATS, Trial.d(ENDLESS)));
      x.accepted(3, x.wheel(FLOATS, Trial.d(-ENDLESS)));
      x.accepted(Trial.d(ENDLESS), x.wheelOf(0, 1));
      x.accepted(Trial.d(-ENDLESS), x.wheelOf(1, 1));
      x.accepted(0x7f800000L, x.wheelOf(2, 1));
      x.accepted(0xffffffffff800000L, x.wheelOf(3, 1));
    });
    sentences.holds("TURN told by BITS of a double, CAST to it: perhaps endless then", x -> {
      x.accepted(0, x.wheel(FLOATS, Trial.d(0x1.fffffefffffffp127)));
      x.accepted(1, x.wheel(FLOATS, Trial.d(0x1.ffffffp127)));
      x.accepted(2, x.wheel(FLOATS, Trial.d(-0x1.ffffffp127)));
      x.accepted(3, x.wheel(FLOATS, Trial.d(0.1)));
      x.accepted(Trial.f(Float.MAX_VALUE), x.wheelOf(0, 1));
      x.accepted(Trial.f(Float.POSITIVE_INFINITY), x.wheelOf(1, 1));
      x.accepted(Trial.f(Float.NEGATIVE_INFINITY), x.wheelOf(2, 1));
      x.accepted(Trial.f(0.1f), x.wheelOf(3, 1));
    });
  }

  private static void atFirst() {
    sentences.holds("a POSITION, 0.0 at first", x -> {
      double[] turns = {1.0, -1.0, ENDLESS, -ENDLESS};
      for (int i = 0; i < 8; i++) {
        x.wheel(2 + i % 2, Trial.d(turns[i / 2]));
        x.accepted(0L, x.wheelOf(i, 0));
      }
    });
  }

  private static void castsFirst() {
    sentences.holds("TO TURN one by a double, CAST to its KIND", x -> {
      x.wheel(FLOATS, Trial.d(1.0));
      x.wheel(DOUBLES, Trial.d(1.0));
      // As a float this is 1.0f.
      x.accepted(1, x.turn(0, Trial.d(0x1.ffffffp-1)));
      x.accepted(0L, x.wheelOf(0, 0));
      x.accepted(0, x.turn(1, Trial.d(0x1.ffffffp-1)));
      x.accepted(Trial.d(0x1.ffffffp-1), x.wheelOf(1, 0));
      x.accepted(0, x.turn(0, Trial.d(0x1.fffffefffffffp-1)));
      x.accepted(Trial.f(0x1.fffffep-1f), x.wheelOf(0, 0));
    });
    sentences.holds("TO TURN one by a double, CAST to its KIND: 0.0 then", x -> {
      x.wheel(FLOATS, Trial.d(0x1p-149));
      x.accepted(0, x.turn(0, Trial.d(0x1p-150)));
      x.accepted(0L, x.wheelOf(0, 0));
      x.accepted(1, x.turn(0, Trial.d(0x1.0000000000001p-150)));
      x.accepted(0L, x.wheelOf(0, 0));
    });
  }

  private static void sumsInItsKind() {
    sentences.holds("SUM is POSITION and that, in its KIND", x -> {
      x.wheel(FLOATS, Trial.d(ENDLESS));
      x.wheel(DOUBLES, Trial.d(ENDLESS));
      for (int wheel = 0; wheel <= 1; wheel++) {
        x.turn(wheel, Trial.d(0x1p24));
        x.accepted(0, x.turn(wheel, Trial.d(1.0)));
      }
      x.accepted(Trial.f(0x1p24f), x.wheelOf(0, 0));
      x.accepted(Trial.d(16777217.0), x.wheelOf(1, 0));
      x.accepted(0, x.turn(0, Trial.d(3.0)));
      x.accepted(Trial.f(0x1.000004p24f), x.wheelOf(0, 0));
    });
  }

  /** A wheel whose turn is endless, as far out as its kind goes. */
  private static void farOut(Trial x, int kind, double sign) {
    x.wheel(kind, Trial.d(ENDLESS));
    x.turn(0, Trial.d(sign * (kind == FLOATS ? Float.MAX_VALUE : Double.MAX_VALUE)));
  }

  private static void spun() {
    for (double sign : new double[] {1.0, -1.0}) {
      sentences.holds("if SUM is endless, that is SPUN: doubles that just round to it, and just not", x -> {
        farOut(x, DOUBLES, sign);
        x.refused(OrreryWorks.SPUN, x.turn(0, Trial.d(sign * 0x1p970)));
        x.accepted(Trial.d(sign * Double.MAX_VALUE), x.wheelOf(0, 0));
        x.accepted(0, x.turn(0, Trial.d(sign * 0x1.fffffffffffffp969)));
        x.accepted(Trial.d(sign * Double.MAX_VALUE), x.wheelOf(0, 0));
        x.accepted(0, x.turn(0, Trial.d(sign * -Double.MAX_VALUE)));
        x.accepted(0L, x.wheelOf(0, 0));
        x.due(1, x.often(OrreryWorks.SPUN));
      });
      sentences.holds("if SUM is endless, that is SPUN: floats that just round to it, and just not", x -> {
        farOut(x, FLOATS, sign);
        x.refused(OrreryWorks.SPUN, x.turn(0, Trial.d(sign * 0x1p103)));
        x.accepted(Trial.f((float) sign * Float.MAX_VALUE), x.wheelOf(0, 0));
        x.accepted(0, x.turn(0, Trial.d(sign * 0x1.fffffep102)));
        x.accepted(Trial.f((float) sign * Float.MAX_VALUE), x.wheelOf(0, 0));
        // This one is CAST to 0x1p103f first.
        x.refused(OrreryWorks.SPUN, x.turn(0, Trial.d(sign * 0x1.fffffffffffffp102)));
        x.due(2, x.often(OrreryWorks.SPUN));
      });
      sentences.holds("TO TURN one by a double, CAST to its KIND: endless then, and just not", x -> {
        x.wheel(FLOATS, Trial.d(ENDLESS));
        x.refused(OrreryWorks.SPUN, x.turn(0, Trial.d(sign * 0x1.ffffffp127)));
        x.accepted(0L, x.wheelOf(0, 0));
        x.accepted(0, x.turn(0, Trial.d(sign * 0x1.fffffefffffffp127)));
        x.accepted(Trial.f((float) sign * Float.MAX_VALUE), x.wheelOf(0, 0));
        // An endless one the other way does not take it back.
        x.refused(OrreryWorks.SPUN, x.turn(0, Trial.d(-sign * ENDLESS)));
        x.accepted(Trial.f((float) sign * Float.MAX_VALUE), x.wheelOf(0, 0));
      });
      sentences.holds("SPUN, and all stays: the next turn goes on from where it was", x -> {
        x.wheel(DOUBLES, Trial.d(4.0));
        x.turn(0, Trial.d(sign * 3.0));
        x.refused(OrreryWorks.SPUN, x.turn(0, Trial.d(sign * ENDLESS)));
        x.accepted((long) sign, x.turn(0, Trial.d(sign * 2.0)));
        x.accepted(Trial.d(sign), x.wheelOf(0, 0));
        x.accepted(Trial.d(4.0), x.wheelOf(0, 1));
      });
    }
  }

  /** A new wheel, turned once. */
  private static void turned(String sentence, int kind, double turn, double by, int turns, double position) {
    sentences.holds(sentence + " (" + by + " by " + turn + ")", x -> {
      x.wheel(kind, Trial.d(turn));
      x.accepted(turns, x.turn(0, Trial.d(by)));
      x.accepted(kind == FLOATS ? Trial.f((float) position) : Trial.d(position), x.wheelOf(0, 0));
    });
  }

  private static void rest() {
    String sentence = "POSITION becomes the rest of SUM by TURN";
    for (int kind = FLOATS; kind <= DOUBLES; kind++) {
      turned(sentence, kind, 2.5, 2.25, 0, 2.25);
      turned(sentence, kind, 2.5, 2.5, 1, 0.0);
      turned(sentence, kind, 2.5, 2.75, 1, 0.25);
      turned(sentence, kind, 2.5, 5.0, 2, 0.0);
      turned(sentence, kind, 0x1p-149, 1.0, GREATEST_INT, 0.0);
      turned(sentence, kind, 0x1.8p-148, 0x1p-148, 0, 0x1p-148);
      turned(sentence, kind, 0x1.8p-148, 0x1p-147, 1, 0x1p-149);
      turned(sentence, kind, 3.0, 0x1p100, GREATEST_INT, 1.0);
      turned(sentence, kind, 3.0, 0x1p101, GREATEST_INT, 2.0);
      turned(sentence + ": an endless TURN is never reached", kind, ENDLESS, 0x1p127, 0, 0x1p127);
      turned(sentence + ": an endless TURN is never reached", kind, -ENDLESS, 0x1p127, 0, 0x1p127);
      turned(sentence + ": an endless TURN is never reached", kind, ENDLESS, -0x1p-149, 0, -0x1p-149);
    }
    turned(sentence, DOUBLES, 1.0, 0x1.fffffffffffffp-1, 0, 0x1.fffffffffffffp-1);
    turned(sentence, FLOATS, 1.0, 0x1.fffffep-1, 0, 0x1.fffffep-1);
    turned(sentence, DOUBLES, Double.MIN_VALUE, Double.MAX_VALUE, GREATEST_INT, 0.0);
    // In the least doubles, (2^53 - 1) * 2^2045 by 3: 1 times 2 stays.
    turned(sentence, DOUBLES, 0x1.8p-1073, Double.MAX_VALUE, GREATEST_INT, 0x1p-1073);
    turned(sentence, DOUBLES, Double.MAX_VALUE, Double.MAX_VALUE, 1, 0.0);
    turned(sentence, DOUBLES, 0x1.ffffffffffffep1023, Double.MAX_VALUE, 1, 0x1p971);
    turned(sentence, FLOATS, 0x1.fffffcp127, Float.MAX_VALUE, 1, 0x1p104);
  }

  private static void signOfTheRest() {
    String sentence = "the rest of SUM by TURN (with the sign of SUM)";
    for (int kind = FLOATS; kind <= DOUBLES; kind++) {
      turned(sentence, kind, 2.5, 3.0, 1, 0.5);
      turned(sentence, kind, -2.5, 3.0, -1, 0.5);
      turned(sentence, kind, 2.5, -3.0, -1, -0.5);
      turned(sentence, kind, -2.5, -3.0, 1, -0.5);
      turned(sentence + ": a 0.0, too", kind, 2.5, 2.5, 1, 0.0);
      turned(sentence + ": a 0.0, too", kind, -2.5, 5.0, -2, 0.0);
      turned(sentence + ": a 0.0, too", kind, 2.5, -2.5, -1, -0.0);
      turned(sentence + ": a 0.0, too", kind, -2.5, -5.0, 2, -0.0);
      turned(sentence + ": 0.0 and -0.0 are 0.0", kind, 2.5, -0.0, 0, 0.0);
      turned(sentence + ": 0.0 and 0.0 are 0.0", kind, -2.5, 0.0, 0, 0.0);
      int of = kind;
      long below = kind == FLOATS ? Integer.MIN_VALUE : Long.MIN_VALUE;
      sentences.holds("SUM is POSITION and that: from -0.0", x -> {
        x.wheel(of, Trial.d(2.0));
        x.turn(0, Trial.d(-2.0));
        x.accepted(below, x.wheelOf(0, 0));
        x.accepted(0, x.turn(0, Trial.d(-0.0)));
        x.accepted(below, x.wheelOf(0, 0));
        x.accepted(0, x.turn(0, Trial.d(0.0)));
        x.accepted(0L, x.wheelOf(0, 0));
      });
      sentences.holds("SUM is POSITION and that: back to 0.0 from both sides", x -> {
        x.wheel(of, Trial.d(2.0));
        x.turn(0, Trial.d(-1.5));
        x.accepted(0, x.turn(0, Trial.d(1.5)));
        x.accepted(0L, x.wheelOf(0, 0));
        x.turn(0, Trial.d(1.5));
        x.accepted(0, x.turn(0, Trial.d(-1.5)));
        x.accepted(0L, x.wheelOf(0, 0));
      });
    }
  }

  private static void turns() {
    String cut = "TURNS are SUM by TURN, CAST to an int";
    for (int kind = FLOATS; kind <= DOUBLES; kind++) {
      turned(cut, kind, 4.0, 3.75, 0, 3.75);
      turned(cut, kind, 4.0, -3.75, 0, -3.75);
      turned(cut, kind, 1.0, 0x1p31, GREATEST_INT, 0.0);
      turned(cut, kind, 1.0, -0x1p31, LEAST_INT, -0.0);
      turned(cut, kind, 1.0, 0x1p33, GREATEST_INT, 0.0);
      turned(cut, kind, 1.0, -0x1p33, LEAST_INT, -0.0);
      turned(cut, kind, -1.0, 0x1p33, LEAST_INT, 0.0);
      turned(cut, kind, 0x1p-149, 0x1p100, GREATEST_INT, 0.0);
    }
    turned(cut, DOUBLES, 1.0, 2147483646.0, 2147483646, 0.0);
    turned(cut, DOUBLES, 1.0, 2147483647.0, GREATEST_INT, 0.0);
    turned(cut, DOUBLES, 1.0, 2147483647.5, GREATEST_INT, 0.5);
    turned(cut, DOUBLES, 1.0, 2147483648.5, GREATEST_INT, 0.5);
    turned(cut, DOUBLES, 1.0, -2147483647.0, -2147483647, -0.0);
    turned(cut, DOUBLES, 1.0, -2147483648.5, LEAST_INT, -0.5);
    turned(cut, DOUBLES, 1.0, -2147483649.0, LEAST_INT, -0.0);
    turned(cut, FLOATS, 1.0, 2147483520.0, 2147483520, 0.0);
    turned(cut + ": an endless quotient", DOUBLES, Double.MIN_VALUE, Double.MAX_VALUE, GREATEST_INT, 0.0);
    turned(cut + ": an endless quotient", DOUBLES, -Double.MIN_VALUE, Double.MAX_VALUE, LEAST_INT, 0.0);
    turned(cut + ": an endless quotient", FLOATS, 0x1p-149, 0x1p127, GREATEST_INT, 0.0);
    // The quotient is rounded up to a whole, though a rest stays.
    turned("TURNS are a quotient of its KIND", FLOATS, 0.1f, 1.0, 10, 1.0f % 0.1f);
    turned("TURNS are a quotient of its KIND", DOUBLES, 0.1f, 1.0, 9, 1.0 % (double) 0.1f);
    turned("TURNS are a quotient of its KIND", DOUBLES, 0.1, 1.0, 10, 0.09999999999999995);
  }

  private static void wheelOf() {
    sentences.holds("wheelOf: THE BITS of the POSITION (what = 0), the TURN (1)", x -> {
      x.wheel(FLOATS, Trial.d(-2.5));
      x.wheel(DOUBLES, Trial.d(-2.5));
      x.turn(0, Trial.d(-1.0));
      x.turn(1, Trial.d(-1.0));
      x.accepted(0xffffffffbf800000L, x.wheelOf(0, 0));
      x.accepted(0xffffffffc0200000L, x.wheelOf(0, 1));
      x.accepted(0xbff0000000000000L, x.wheelOf(1, 0));
      x.accepted(0xc004000000000000L, x.wheelOf(1, 1));
      x.refused(OrreryWorks.BAD, x.wheelOf(1, -1));
      x.refused(OrreryWorks.BAD, x.wheelOf(1, 2));
      x.refused(OrreryWorks.BAD, x.wheelOf(2, 0));
      x.refused(OrreryWorks.BAD, x.wheelOf(-1, 0));
    });
    sentences.holds("turn: A WHEEL is TURNED, no other one", x -> {
      for (int i = 0; i < 10; i++) x.wheel(2 + i % 2, Trial.d(100.0));
      for (int i = 0; i < 10; i++) x.accepted(0, x.turn(i, Trial.d(i + 1.0)));
      for (int i = 0; i < 10; i++) x.accepted(i % 2 == 0 ? Trial.f(i + 1.0f) : Trial.d(i + 1.0), x.wheelOf(i, 0));
      x.refused(OrreryWorks.BAD, x.turn(10, Trial.d(1.0)));
    });
  }

  private static void take() {
    sentences.holds("take: A REGISTER holds a WHEEL's POSITION, CAST: of 0.0 with a sign", x -> {
      for (int kind = 0; kind <= 3; kind++) x.register(kind);
      for (int wheel = 0; wheel <= 1; wheel++) {
        x.wheel(2 + wheel, Trial.d(1.0));
        x.turn(wheel, Trial.d(-1.0));
        long[] want = {0L, 0L, Integer.MIN_VALUE, Long.MIN_VALUE};
        for (int kind = 0; kind <= 3; kind++) {
          x.load(kind, 0, 9L);
          x.accepted(1, x.take(wheel, kind));
          x.accepted(want[kind], x.read(kind, kind));
        }
      }
    });
    sentences.holds("take: A REGISTER holds a WHEEL's POSITION, not its TURN; the WHEEL stays", x -> {
      x.register(3);
      x.wheel(3, Trial.d(8.0));
      x.turn(0, Trial.d(11.5));
      x.accepted(1, x.take(0, 0));
      x.accepted(Trial.d(3.5), x.read(0, 3));
      x.accepted(Trial.d(3.5), x.wheelOf(0, 0));
      x.turn(0, Trial.d(1.0));
      x.accepted(Trial.d(3.5), x.read(0, 3));
      x.refused(OrreryWorks.BAD, x.take(1, 0));
      x.refused(OrreryWorks.BAD, x.take(0, 1));
    });
  }
}
