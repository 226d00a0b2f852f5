/** "==== 2 REGISTERS" of the terms, and promises 5 (register) to 8 (move) and 10 (work), sentence by sentence. */
public final class RegisterEdgesTest {
  private static final Sentences sentences = new Sentences();
  private static final int INT = 0, LONG = 1, FLOAT = 2, DOUBLE = 3;
  private static final int PLUS = 0, LESS = 1, TIMES = 2, BY = 3, REST_BY = 4;
  private static final int LEAST_INT = Integer.MIN_VALUE, GREATEST_INT = Integer.MAX_VALUE;
  private static final long LEAST_LONG = Long.MIN_VALUE, GREATEST_LONG = Long.MAX_VALUE;
  private static final double ENDLESS = Trial.ENDLESS;

  public static void main(String[] args) {
    atMostSixteen();
    atFirst();
    eachByItself();
    move();
    greaterKind();
    thirdKind();
    thirdIsOneOfBoth();
    intsWrap();
    longsWrap();
    wholesAreCut();
    zero();
    notZeroOfReals();
    whatIsVoid();
    notVoid();
    zerosWithASign();
    restsOfReals();
    sentences.end();
  }

  private static void atMostSixteen() {
    sentences.holds("REGISTERS, 16 at most", x -> {
      for (int i = 0; i < 16; i++) {
        x.due(i, x.count(1));
        x.accepted(i, x.register(i % 4));
      }
      for (int kind = 0; kind <= 3; kind++) x.refused(OrreryWorks.FULL, x.register(kind));
      x.due(16, x.count(1));
      x.due(4, x.often(OrreryWorks.FULL));
    });
    sentences.holds("REGISTERS, 16 at most: those that were BAD are none", x -> {
      for (int i = 0; i < 20; i++) x.refused(OrreryWorks.BAD, x.register(4));
      for (int i = 0; i < 16; i++) x.accepted(i, x.register(0));
      x.refused(OrreryWorks.FULL, x.register(0));
    });
  }

  private static void atFirst() {
    sentences.holds("REGISTERS hold a value, 0 at first", x -> {
      for (int i = 0; i < 16; i++) x.register(i % 4);
      for (int i = 0; i < 16; i++) {
        for (int kind = 0; kind <= 3; kind++) x.accepted(0L, x.read(i, kind));
      }
    });
  }

  private static void eachByItself() {
    sentences.holds("load: A REGISTER holds a value, no other one does", x -> {
      for (int i = 0; i < 16; i++) x.register(i % 4);
      for (int i = 0; i < 16; i++) x.accepted(1, x.load(i, 0, 100L + i));
      for (int i = 0; i < 16; i++) x.accepted(100L + i, x.read(i, 0));
      x.refused(OrreryWorks.BAD, x.load(16, 0, 1L));
      x.refused(OrreryWorks.BAD, x.load(-1, 0, 1L));
      x.refused(OrreryWorks.BAD, x.read(16, 0));
      x.refused(OrreryWorks.BAD, x.read(-1, 0));
    });
    sentences.holds("read: THE BITS of a REGISTER's value: reading changes nothing", x -> {
      x.register(3);
      x.load(0, 3, Trial.d(-2.75));
      for (int kind = 0; kind <= 3; kind++) x.read(0, kind);
      x.accepted(Trial.d(-2.75), x.read(0, 3));
    });
  }

  private static void moved(int from, long bits, int to, int same, long held) {
    sentences.holds("move: whether that, CAST back, has the BITS of the other one's: " + bits + " of " + from + " to " + to, x -> {
      x.register(from);
      x.register(to);
      x.load(0, from, bits);
      x.accepted(same, x.move(0, 1));
      x.accepted(held, x.read(1, to));
      x.accepted(bits, x.read(0, from));
    });
  }

  private static void move() {
    moved(INT, 16777216L, FLOAT, 1, Trial.f(16777216.0f));
    moved(INT, 16777217L, FLOAT, 0, Trial.f(16777216.0f));
    moved(INT, 16777218L, FLOAT, 1, Trial.f(16777218.0f));
    moved(INT, GREATEST_INT, FLOAT, 1, Trial.f(0x1p31f));
    moved(INT, GREATEST_INT - 1L, FLOAT, 0, Trial.f(0x1p31f));
    moved(INT, LEAST_INT, FLOAT, 1, Trial.f(-0x1p31f));
    moved(INT, LEAST_INT + 1L, FLOAT, 0, Trial.f(-0x1p31f));
    moved(INT, GREATEST_INT, DOUBLE, 1, Trial.d(2147483647.0));
    moved(INT, LEAST_INT, LONG, 1, LEAST_INT);
    moved(LONG, GREATEST_INT, INT, 1, GREATEST_INT);
    moved(LONG, GREATEST_INT + 1L, INT, 0, LEAST_INT);
    moved(LONG, LEAST_INT, INT, 1, LEAST_INT);
    moved(LONG, LEAST_INT - 1L, INT, 0, GREATEST_INT);
    moved(LONG, 1L << 32, INT, 0, 0L);
    moved(LONG, GREATEST_LONG, FLOAT, 1, Trial.f(0x1p63f));
    moved(LONG, GREATEST_LONG, DOUBLE, 1, Trial.d(0x1p63));
    moved(LONG, GREATEST_LONG - 1L, DOUBLE, 0, Trial.d(0x1p63));
    moved(LONG, LEAST_LONG, DOUBLE, 1, Trial.d(-0x1p63));
    moved(LONG, 0x20000000000000L, DOUBLE, 1, Trial.d(0x1p53));
    moved(LONG, 0x20000000000001L, DOUBLE, 0, Trial.d(0x1p53));
    moved(FLOAT, Trial.f(0.0f), INT, 1, 0L);
    moved(FLOAT, Trial.f(-0.0f), INT, 0, 0L);
    moved(FLOAT, Trial.f(-0.0f), LONG, 0, 0L);
    moved(FLOAT, Trial.f(-0.0f), DOUBLE, 1, Trial.d(-0.0));
    moved(FLOAT, Trial.f(1.5f), INT, 0, 1L);
    moved(FLOAT, Trial.f(0x1p31f), INT, 1, GREATEST_INT);
    moved(FLOAT, Trial.f(0x1.000002p31f), INT, 0, GREATEST_INT);
    moved(FLOAT, Trial.f(-0x1p31f), INT, 1, LEAST_INT);
    moved(FLOAT, Trial.f(0x1p63f), LONG, 1, GREATEST_LONG);
    moved(FLOAT, Trial.f(0x1.000002p63f), LONG, 0, GREATEST_LONG);
    moved(FLOAT, Trial.f(Float.POSITIVE_INFINITY), LONG, 0, GREATEST_LONG);
    moved(FLOAT, Trial.f(Float.NEGATIVE_INFINITY), DOUBLE, 1, Trial.d(-ENDLESS));
    moved(FLOAT, 1L, DOUBLE, 1, Trial.d(0x1p-149));
    moved(DOUBLE, Trial.d(0.0), INT, 1, 0L);
    moved(DOUBLE, Trial.d(-0.0), INT, 0, 0L);
    moved(DOUBLE, Trial.d(-0.0), FLOAT, 1, Trial.f(-0.0f));
    moved(DOUBLE, Trial.d(-Double.MIN_VALUE), FLOAT, 0, Trial.f(-0.0f));
    moved(DOUBLE, Trial.d(2147483647.0), INT, 1, GREATEST_INT);
    moved(DOUBLE, Trial.d(2147483648.0), INT, 0, GREATEST_INT);
    moved(DOUBLE, Trial.d(0x1p63), LONG, 1, GREATEST_LONG);
    moved(DOUBLE, Trial.d(0x1.0000000000001p63), LONG, 0, GREATEST_LONG);
    moved(DOUBLE, Trial.d(0x1p-149), FLOAT, 1, 1L);
    moved(DOUBLE, Trial.d(0x1p-150), FLOAT, 0, 0L);
    moved(DOUBLE, Trial.d(0x1.fffffep127), FLOAT, 1, Trial.f(Float.MAX_VALUE));
    moved(DOUBLE, Trial.d(0x1p128), FLOAT, 0, Trial.f(Float.POSITIVE_INFINITY));
    moved(DOUBLE, Trial.d(ENDLESS), FLOAT, 1, Trial.f(Float.POSITIVE_INFINITY));
    moved(DOUBLE, Trial.d(ENDLESS), INT, 0, GREATEST_INT);
    moved(DOUBLE, Trial.d(-ENDLESS), DOUBLE, 1, Trial.d(-ENDLESS));
    sentences.holds("move: a REGISTER holds its own value: that is no refusal, and nothing is lost", x -> {
      x.register(3);
      x.load(0, 3, Trial.d(-0.0));
      x.accepted(1, x.move(0, 0));
      x.accepted(Trial.d(-0.0), x.read(0, 3));
    });
    sentences.holds("move: BAD", x -> {
      x.register(0);
      x.refused(OrreryWorks.BAD, x.move(0, 1));
      x.refused(OrreryWorks.BAD, x.move(1, 0));
      x.refused(OrreryWorks.BAD, x.move(0, -1));
      x.refused(OrreryWorks.BAD, x.move(-1, 0));
    });
  }

  /** A value of a kind, to be worked. */
  private record Value(int kind, long bits) {
    static Value of(int value) {
      return new Value(INT, value);
    }

    static Value of(long value) {
      return new Value(LONG, value);
    }

    static Value of(float value) {
      return new Value(FLOAT, Trial.f(value));
    }

    static Value of(double value) {
      return new Value(DOUBLE, Trial.d(value));
    }
  }

  private static void load(Trial x, Value a, Value b, int to) {
    x.register(a.kind);
    x.register(b.kind);
    x.register(to);
    x.load(0, a.kind, a.bits);
    x.load(1, b.kind, b.bits);
    x.load(2, INT, 77L);
  }

  private static void worked(String sentence, int what, Value a, Value b, Value want) {
    sentences.holds(sentence + ": " + a + " " + what + " " + b, x -> {
      load(x, a, b, want.kind);
      x.accepted(1, x.work(what, 0, 1, 2));
      x.accepted(want.bits, x.read(2, want.kind));
      x.accepted(a.bits, x.read(0, a.kind));
      x.accepted(b.bits, x.read(1, b.kind));
    });
  }

  private static void notWorked(String sentence, int why, int what, Value a, Value b) {
    for (int kind = 0; kind <= 3; kind++) {
      int to = kind;
      sentences.holds(sentence + ": " + a + " " + what + " " + b, x -> {
        load(x, a, b, to);
        x.refused(why, x.work(what, 0, 1, 2));
        x.due(1, x.often(why));
        x.accepted(77L, x.read(2, INT));
        x.accepted(a.bits, x.read(0, a.kind));
        x.accepted(b.bits, x.read(1, b.kind));
        // Nor does it change one of both.
        x.refused(why, x.work(what, 0, 1, 0));
        x.accepted(a.bits, x.read(0, a.kind));
        x.refused(why, x.work(what, 0, 1, 1));
        x.accepted(b.bits, x.read(1, b.kind));
      });
    }
  }

  private static void greaterKind() {
    String sentence = "both are CAST to the greater one of their KINDS, worked in it";
    worked(sentence, PLUS, Value.of(GREATEST_INT), Value.of(1), Value.of((long) LEAST_INT));
    worked(sentence, PLUS, Value.of(GREATEST_INT), Value.of(1L), Value.of(2147483648L));
    worked(sentence, PLUS, Value.of(1L), Value.of(GREATEST_INT), Value.of(2147483648L));
    worked(sentence, PLUS, Value.of(16777217), Value.of(0.0f), Value.of(16777216));
    worked(sentence, PLUS, Value.of(0.0f), Value.of(16777217), Value.of(16777216));
    worked(sentence, PLUS, Value.of(16777217), Value.of(0.0), Value.of(16777217));
    worked(sentence, PLUS, Value.of(0.0), Value.of(16777217), Value.of(16777217));
    worked(sentence, PLUS, Value.of(16777217L), Value.of(0.0f), Value.of(16777216L));
    worked(sentence, PLUS, Value.of(0.0f), Value.of(16777217L), Value.of(16777216L));
    worked(sentence, PLUS, Value.of(0x20000000000001L), Value.of(0.0), Value.of(0x20000000000000L));
    worked(sentence, PLUS, Value.of(0.0), Value.of(0x20000000000001L), Value.of(0x20000000000000L));
    worked(sentence, PLUS, Value.of(0x1p24f), Value.of(1.0f), Value.of(0x1p24));
    worked(sentence, PLUS, Value.of(0x1p24f), Value.of(1.0), Value.of(16777217.0));
    worked(sentence, PLUS, Value.of(1.0), Value.of(0x1p24f), Value.of(16777217.0));
    worked(sentence, BY, Value.of(7), Value.of(2), Value.of(3.0));
    worked(sentence, BY, Value.of(7L), Value.of(2), Value.of(3.0));
    worked(sentence, BY, Value.of(7), Value.of(2.0f), Value.of(3.5));
    worked(sentence, BY, Value.of(7.0), Value.of(2L), Value.of(3.5));
    worked(sentence, BY, Value.of(1), Value.of(3.0f), Value.of((double) 0x1.555556p-2f));
    worked(sentence, BY, Value.of(1), Value.of(3.0), Value.of(0x1.5555555555555p-2));
    worked(sentence, TIMES, Value.of(0x1p100f), Value.of(0x1p100f), Value.of(ENDLESS));
    worked(sentence, TIMES, Value.of(0x1p100f), Value.of(0x1p100), Value.of(0x1p200));
    worked(sentence, REST_BY, Value.of(-7.5), Value.of(2), Value.of(-1.5));
    worked(sentence, REST_BY, Value.of(7), Value.of(-2.5f), Value.of(2.0));
  }

  private static void thirdKind() {
    String sentence = "what comes is CAST to the third one's KIND";
    worked(sentence, PLUS, Value.of(1L << 32), Value.of(5L), Value.of(5));
    worked(sentence, TIMES, Value.of(0x1p31), Value.of(1.0), Value.of(GREATEST_INT));
    worked(sentence, TIMES, Value.of(0x1p31), Value.of(-2.0), Value.of(LEAST_INT));
    worked(sentence, TIMES, Value.of(0x1p62f), Value.of(2.0f), Value.of(GREATEST_LONG));
    worked(sentence, BY, Value.of(1.0), Value.of(0.0), Value.of(GREATEST_INT));
    worked(sentence, BY, Value.of(-1.0), Value.of(0.0), Value.of(LEAST_LONG));
    worked(sentence, LESS, Value.of(0.0), Value.of(0.9999999999999999), Value.of(0));
    worked(sentence, PLUS, Value.of(0x1p127), Value.of(0x1p127), Value.of(Float.POSITIVE_INFINITY));
    worked(sentence, TIMES, Value.of(0x1p-75), Value.of(0x1p-75), Value.of(0.0f));
    worked(sentence, TIMES, Value.of(-0x1p-75), Value.of(0x1p-75), Value.of(-0.0f));
    worked(sentence, PLUS, Value.of(16777216), Value.of(1), Value.of(16777216.0f));
  }

  private static void thirdIsOneOfBoth() {
    sentences.holds("two REGISTERS are WORKED into a third one, or into one of both", x -> {
      x.register(LONG);
      x.register(INT);
      x.load(0, LONG, 40L);
      x.load(1, INT, 3L);
      x.accepted(1, x.work(LESS, 0, 1, 0));
      x.accepted(37L, x.read(0, LONG));
      x.accepted(3L, x.read(1, INT));
      x.accepted(1, x.work(LESS, 1, 0, 1));
      x.accepted(-34L, x.read(1, INT));
      x.accepted(1, x.work(TIMES, 0, 0, 0));
      x.accepted(1369L, x.read(0, LONG));
      x.accepted(1, x.work(LESS, 0, 0, 0));
      x.accepted(0L, x.read(0, LONG));
    });
  }

  private static void intsWrap() {
    String sentence = "ints wrap";
    worked(sentence, PLUS, Value.of(GREATEST_INT - 1), Value.of(1), Value.of(GREATEST_INT));
    worked(sentence, PLUS, Value.of(GREATEST_INT), Value.of(1), Value.of(LEAST_INT));
    worked(sentence, PLUS, Value.of(LEAST_INT), Value.of(LEAST_INT), Value.of(0));
    worked(sentence, LESS, Value.of(LEAST_INT + 1), Value.of(1), Value.of(LEAST_INT));
    worked(sentence, LESS, Value.of(LEAST_INT), Value.of(1), Value.of(GREATEST_INT));
    worked(sentence, LESS, Value.of(0), Value.of(LEAST_INT), Value.of(LEAST_INT));
    worked(sentence, TIMES, Value.of(46340), Value.of(46340), Value.of(2147395600));
    worked(sentence, TIMES, Value.of(46341), Value.of(46341), Value.of(-2147479015));
    worked(sentence, TIMES, Value.of(65536), Value.of(65536), Value.of(0L));
    worked(sentence, TIMES, Value.of(LEAST_INT), Value.of(-1), Value.of((long) LEAST_INT));
    worked(sentence, BY, Value.of(LEAST_INT), Value.of(-1), Value.of((long) LEAST_INT));
    worked(sentence, BY, Value.of(LEAST_INT + 1), Value.of(-1), Value.of((long) GREATEST_INT));
    worked(sentence, BY, Value.of(LEAST_INT), Value.of(1), Value.of((long) LEAST_INT));
    worked(sentence, REST_BY, Value.of(LEAST_INT), Value.of(-1), Value.of(0));
    worked(sentence, BY, Value.of(LEAST_INT), Value.of(-1L), Value.of(2147483648L));
  }

  private static void longsWrap() {
    String sentence = "longs wrap";
    worked(sentence, PLUS, Value.of(GREATEST_LONG - 1L), Value.of(1L), Value.of(GREATEST_LONG));
    worked(sentence, PLUS, Value.of(GREATEST_LONG), Value.of(1), Value.of(LEAST_LONG));
    worked(sentence, LESS, Value.of(LEAST_LONG), Value.of(1L), Value.of(GREATEST_LONG));
    worked(sentence, LESS, Value.of(0), Value.of(LEAST_LONG), Value.of(LEAST_LONG));
    worked(sentence, TIMES, Value.of(3037000499L), Value.of(3037000499L), Value.of(9223372030926249001L));
    worked(sentence, TIMES, Value.of(3037000500L), Value.of(3037000500L), Value.of(-9223372036709301616L));
    worked(sentence, TIMES, Value.of(1L << 32), Value.of(1L << 32), Value.of(0L));
    worked(sentence, TIMES, Value.of(LEAST_LONG), Value.of(-1), Value.of(LEAST_LONG));
    worked(sentence, BY, Value.of(LEAST_LONG), Value.of(-1), Value.of(LEAST_LONG));
    worked(sentence, BY, Value.of(LEAST_LONG + 1L), Value.of(-1L), Value.of(GREATEST_LONG));
    worked(sentence, REST_BY, Value.of(LEAST_LONG), Value.of(-1L), Value.of(0L));
  }

  private static void wholesAreCut() {
    String sentence = "ints and longs are cut";
    int[][] rows = {{7, 2, 3, 1}, {-7, 2, -3, -1}, {7, -2, -3, 1}, {-7, -2, 3, -1}, {1, 2, 0, 1}, {-1, 2, 0, -1},
        {6, 2, 3, 0}, {-6, 2, -3, 0}, {0, 5, 0, 0}, {LEAST_INT, GREATEST_INT, -1, -1}};
    for (int[] row : rows) {
      worked(sentence, BY, Value.of(row[0]), Value.of(row[1]), Value.of(row[2]));
      worked(sentence, REST_BY, Value.of(row[0]), Value.of(row[1]), Value.of(row[3]));
      worked(sentence, BY, Value.of((long) row[0]), Value.of((long) row[1]), Value.of((long) row[2]));
      worked(sentence, REST_BY, Value.of((long) row[0]), Value.of((long) row[1]), Value.of((long) row[3]));
      worked(sentence, BY, Value.of(row[0]), Value.of((long) row[1]), Value.of((double) row[2]));
    }
  }

  private static void zero() {
    String sentence = "ZERO: 3, 4 of ints, longs by 0";
    for (int what = BY; what <= REST_BY; what++) {
      for (int a : new int[] {0, 1, -1, LEAST_INT, GREATEST_INT}) {
        notWorked(sentence, OrreryWorks.ZERO, what, Value.of(a), Value.of(0));
        notWorked(sentence, OrreryWorks.ZERO, what, Value.of(a), Value.of(0L));
        notWorked(sentence, OrreryWorks.ZERO, what, Value.of((long) a), Value.of(0));
        notWorked(sentence, OrreryWorks.ZERO, what, Value.of((long) a), Value.of(0L));
      }
    }
    String others = "ZERO: 3, 4, and no others";
    worked(others, PLUS, Value.of(5), Value.of(0), Value.of(5));
    worked(others, LESS, Value.of(5), Value.of(0), Value.of(5));
    worked(others, TIMES, Value.of(5), Value.of(0), Value.of(0));
    worked(others, PLUS, Value.of(5L), Value.of(0L), Value.of(5L));
    worked(others, LESS, Value.of(5L), Value.of(0L), Value.of(5L));
    worked(others, TIMES, Value.of(5L), Value.of(0L), Value.of(0L));
    String by = "ZERO: by 0, and nothing beside it";
    worked(by, BY, Value.of(0), Value.of(1), Value.of(0));
    worked(by, REST_BY, Value.of(0), Value.of(-1), Value.of(0));
    // A long whose lowest 32 bits are 0 is not 0.
    worked(by, BY, Value.of(1L << 33), Value.of(1L << 32), Value.of(2L));
    worked(by, REST_BY, Value.of(5), Value.of(1L << 32), Value.of(5L));
    worked(by, BY, Value.of(5), Value.of(LEAST_LONG), Value.of(0L));
  }

  private static void notZeroOfReals() {
    String sentence = "ZERO is of ints, longs: floats, doubles by 0 are endless";
    double[] zeros = {0.0, -0.0};
    for (double zero : zeros) {
      double comes = 5.0 / zero;
      worked(sentence, BY, Value.of(5.0), Value.of(zero), Value.of(comes));
      worked(sentence, BY, Value.of(5.0f), Value.of((float) zero), Value.of((float) comes));
      worked(sentence, BY, Value.of(5), Value.of((float) zero), Value.of((float) comes));
      worked(sentence, BY, Value.of(5L), Value.of(zero), Value.of(comes));
      worked(sentence, BY, Value.of(-5), Value.of(zero), Value.of(-comes));
      worked(sentence, BY, Value.of(ENDLESS), Value.of(zero), Value.of(comes));
    }
    worked(sentence, BY, Value.of(5.0f), Value.of(0), Value.of(Float.POSITIVE_INFINITY));
    worked(sentence, BY, Value.of(-5.0), Value.of(0L), Value.of(-ENDLESS));
    worked(sentence, BY, Value.of(Double.MIN_VALUE), Value.of(0), Value.of(ENDLESS));
    notWorked("both 0 (3) are VOID, though one is an int", OrreryWorks.VOID, BY, Value.of(0), Value.of(0.0f));
    notWorked("both 0 (3) are VOID, though one is a long", OrreryWorks.VOID, BY, Value.of(0.0), Value.of(0L));
    notWorked("the second one 0 (4) is VOID, though it is an int", OrreryWorks.VOID, REST_BY, Value.of(5.0f), Value.of(0));
    notWorked("the second one 0 (4) is VOID, though it is a long", OrreryWorks.VOID, REST_BY, Value.of(5.0), Value.of(0L));
  }

  /** As the sentence says it, of every two of the values that stand at an edge. */
  private static boolean isVoid(int what, double a, double b) {
    boolean bothEndless = Math.abs(a) == ENDLESS && Math.abs(b) == ENDLESS;
    switch (what) {
      case PLUS: return bothEndless && a != b;
      case LESS: return bothEndless && a == b;
      case TIMES: return a == 0.0 && Math.abs(b) == ENDLESS || Math.abs(a) == ENDLESS && b == 0.0;
      case BY: return a == 0.0 && b == 0.0 || bothEndless;
      default: return b == 0.0 || Math.abs(a) == ENDLESS;
    }
  }

  private static void whatIsVoid() {
    String[] sentence = {"VOID: both endless and of other signs (0)", "VOID: both endless, of the same (1)",
        "VOID: 0 and an endless one (2)", "VOID: both 0, or both endless (3)", "VOID: the second one 0, or the first one endless (4)"};
    double[] values = {0.0, Float.MIN_VALUE, 1.0, Float.MAX_VALUE, ENDLESS, -0.0, -Float.MIN_VALUE, -1.0, -Float.MAX_VALUE, -ENDLESS};
    for (int what = PLUS; what <= REST_BY; what++) {
      int of = what;
      for (double a : values) {
        for (double b : values) {
          if (!isVoid(what, a, b)) {
            sentences.holds(sentence[what] + ", not " + a + " and " + b, x -> {
              load(x, Value.of(a), Value.of(b), DOUBLE);
              x.accepted(1, x.work(of, 0, 1, 2));
              x.due(0, x.often(OrreryWorks.VOID));
            });
            sentences.holds(sentence[what] + ", not " + a + " and " + b + " in floats", x -> {
              load(x, Value.of((float) a), Value.of((float) b), DOUBLE);
              x.accepted(1, x.work(of, 0, 1, 2));
              x.due(0, x.often(OrreryWorks.VOID));
            });
          } else {
            notWorked(sentence[what], OrreryWorks.VOID, what, Value.of(a), Value.of(b));
            notWorked(sentence[what], OrreryWorks.VOID, what, Value.of((float) a), Value.of((float) b));
            notWorked(sentence[what], OrreryWorks.VOID, what, Value.of((float) a), Value.of(b));
          }
        }
      }
    }
    notWorked(sentence[TIMES], OrreryWorks.VOID, TIMES, Value.of(0), Value.of(ENDLESS));
    notWorked(sentence[TIMES], OrreryWorks.VOID, TIMES, Value.of(Float.NEGATIVE_INFINITY), Value.of(0L));
    notWorked(sentence[REST_BY], OrreryWorks.VOID, REST_BY, Value.of(ENDLESS), Value.of(3));
    notWorked(sentence[REST_BY], OrreryWorks.VOID, REST_BY, Value.of(7), Value.of(-0.0f));
  }

  private static void notVoid() {
    String sentence = "what would come to no number is VOID, what comes to an endless one is not";
    double max = Double.MAX_VALUE;
    worked(sentence, PLUS, Value.of(ENDLESS), Value.of(ENDLESS), Value.of(ENDLESS));
    worked(sentence, PLUS, Value.of(-ENDLESS), Value.of(max), Value.of(-ENDLESS));
    worked(sentence, LESS, Value.of(ENDLESS), Value.of(-ENDLESS), Value.of(ENDLESS));
    worked(sentence, LESS, Value.of(1), Value.of(ENDLESS), Value.of(-ENDLESS));
    worked(sentence, TIMES, Value.of(ENDLESS), Value.of(-ENDLESS), Value.of(-ENDLESS));
    worked(sentence, TIMES, Value.of(Double.MIN_VALUE), Value.of(-ENDLESS), Value.of(-ENDLESS));
    worked(sentence, TIMES, Value.of(0.0), Value.of(max), Value.of(0.0));
    worked(sentence, BY, Value.of(0.0), Value.of(ENDLESS), Value.of(0.0));
    worked(sentence, BY, Value.of(max), Value.of(-ENDLESS), Value.of(-0.0));
    worked(sentence, BY, Value.of(ENDLESS), Value.of(Double.MIN_VALUE), Value.of(ENDLESS));
    worked(sentence, BY, Value.of(-ENDLESS), Value.of(0), Value.of(-ENDLESS));
    worked(sentence, REST_BY, Value.of(-max), Value.of(ENDLESS), Value.of(-max));
    worked(sentence, REST_BY, Value.of(0.0), Value.of(-ENDLESS), Value.of(0.0));
    worked(sentence, PLUS, Value.of(max), Value.of(0x1.fffffffffffffp969), Value.of(max));
    worked(sentence, PLUS, Value.of(max), Value.of(0x1p970), Value.of(ENDLESS));
    worked(sentence, LESS, Value.of(-max), Value.of(0x1p970), Value.of(-ENDLESS));
    worked(sentence, TIMES, Value.of(max), Value.of(2), Value.of(ENDLESS));
    worked(sentence, BY, Value.of(max), Value.of(0.5), Value.of(ENDLESS));
    worked(sentence, PLUS, Value.of(Float.MAX_VALUE), Value.of(0x1.fffffep102f), Value.of(Float.MAX_VALUE));
    worked(sentence, PLUS, Value.of(Float.MAX_VALUE), Value.of(0x1p103f), Value.of(Float.POSITIVE_INFINITY));
    worked(sentence, TIMES, Value.of(Float.MAX_VALUE), Value.of(-2), Value.of(Float.NEGATIVE_INFINITY));
    worked(sentence, TIMES, Value.of(0x1p-149f), Value.of(0.5f), Value.of(0.0f));
    worked(sentence, TIMES, Value.of(0x1.8p-149f), Value.of(0.5f), Value.of(0x1p-149f));
    worked(sentence, BY, Value.of(-Double.MIN_VALUE), Value.of(2), Value.of(-0.0));
  }

  private static void zerosWithASign() {
    String sentence = "a 0.0 with a sign is worked as the language does it";
    worked(sentence, PLUS, Value.of(-0.0), Value.of(0.0), Value.of(0.0));
    worked(sentence, PLUS, Value.of(-0.0), Value.of(-0.0), Value.of(-0.0));
    worked(sentence, PLUS, Value.of(-0.0f), Value.of(0), Value.of(0.0f));
    worked(sentence, LESS, Value.of(-0.0), Value.of(0), Value.of(-0.0));
    worked(sentence, LESS, Value.of(0), Value.of(-0.0), Value.of(0.0));
    worked(sentence, LESS, Value.of(1.5), Value.of(1.5), Value.of(0.0));
    worked(sentence, LESS, Value.of(-0.0f), Value.of(-0.0f), Value.of(0.0f));
    worked(sentence, TIMES, Value.of(0.0), Value.of(-1), Value.of(-0.0));
    worked(sentence, TIMES, Value.of(-0.0f), Value.of(-0.0f), Value.of(0.0f));
    worked(sentence, BY, Value.of(0.0), Value.of(-1), Value.of(-0.0));
    worked(sentence, BY, Value.of(1), Value.of(-0.0), Value.of(-ENDLESS));
    worked(sentence, REST_BY, Value.of(-0.0), Value.of(5), Value.of(-0.0));
    worked(sentence, REST_BY, Value.of(-0.0f), Value.of(Float.POSITIVE_INFINITY), Value.of(-0.0f));
  }

  private static void restsOfReals() {
    String sentence = "4 the rest by, of floats, doubles";
    worked(sentence, REST_BY, Value.of(6.0), Value.of(-2.0), Value.of(0.0));
    worked(sentence, REST_BY, Value.of(-6.0), Value.of(2.0), Value.of(-0.0));
    worked(sentence, REST_BY, Value.of(0x1.fffffffffffffp0), Value.of(2), Value.of(0x1.fffffffffffffp0));
    worked(sentence, REST_BY, Value.of(2.0), Value.of(0x1.fffffffffffffp0), Value.of(0x1p-52));
    worked(sentence, REST_BY, Value.of(1.0), Value.of(0.1), Value.of(0.09999999999999995));
    worked(sentence, REST_BY, Value.of(1.0f), Value.of(0.1f), Value.of(0x1.999996p-4f));
    worked(sentence, REST_BY, Value.of(Double.MAX_VALUE), Value.of(Double.MIN_VALUE), Value.of(0.0));
    worked(sentence, REST_BY, Value.of(Double.MAX_VALUE), Value.of(0x1.8p-1073), Value.of(0x1p-1073));
    worked(sentence, REST_BY, Value.of(-Float.MAX_VALUE), Value.of(0x1.8p-148f), Value.of(-(Float.MAX_VALUE % 0x1.8p-148f)));
    worked(sentence, REST_BY, Value.of(0x1p-1022), Value.of(0x1.ffffffffffffep-1023), Value.of(Double.MIN_VALUE));
    worked(sentence, REST_BY, Value.of(0x1p-126f), Value.of(0x1.fffffcp-127f), Value.of(Float.MIN_VALUE));
    worked(sentence, REST_BY, Value.of(7.25f), Value.of(-2.5), Value.of(2.25));
  }
}
