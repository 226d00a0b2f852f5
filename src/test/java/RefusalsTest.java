/**
 * "Refusals change nothing, but are counted by their kinds (all but BAD)": every refusal that a promise names, by every
 * number that may be wrong, in a world where something stands everywhere.
 */
public final class RefusalsTest {
  private static final int BAD = OrreryWorks.BAD, FULL = OrreryWorks.FULL, SPUN = OrreryWorks.SPUN,
      VOID = OrreryWorks.VOID, ZERO = OrreryWorks.ZERO, CAST = OrreryWorks.CAST, INDEX = OrreryWorks.INDEX,
      STORE = OrreryWorks.STORE, NULL = OrreryWorks.NULL, NONE = OrreryWorks.NONE;
  private static final int LEAST = Integer.MIN_VALUE, GREATEST = Integer.MAX_VALUE;
  private static final int[] NO_KINDS = {-1, 4, LEAST, GREATEST};
  private static final int[] NO_WHEELS = {-1, 3, 9, 10, LEAST, GREATEST};
  private static final int[] NO_REGISTERS = {-1, 8, 15, 16, LEAST, GREATEST};
  private static final int[] NO_STRIPS = {-1, 6, 7, 8, LEAST, GREATEST};
  private static final int[] NO_POINTERS = {-2, 4, 11, 12, LEAST, GREATEST};
  private static final int[] NO_STANDS = {-1, 4, 7, 8, LEAST, GREATEST};
  /** Of rows with two places. */
  private static final int[] NO_PLACES = {-1, 2, 6, 16, LEAST, GREATEST};
  private static final long[] NO_DOUBLES = {0x7ff0000000000001L, 0x7ff8000000000000L, Long.MAX_VALUE,
      0xfff0000000000001L, 0xfff8000000000000L, -1L};
  private static final int INT = 0, LONG = 1, FLOAT = 2, DOUBLE = 3, INT_0 = 4, LONG_0 = 5, ENDLESS = 6, BELOW_0 = 7;
  private static final int NO_PLACE_STRIP = 4, GONE = 5;

  private static final Sentences sentences = new Sentences();

  public static void main(String[] args) {
    wheel();
    turn();
    wheelOf();
    register();
    load();
    readMoveTake();
    work();
    workVoid();
    strip();
    tear();
    keep();
    kept();
    rests();
    pointer();
    stand();
    set();
    hang();
    show();
    all();
    allAreThere();
    nothingIsThere();
    sentences.end();
  }

  /**
   * Wheels 0 (floats), 1 (doubles), 2 (doubles, of an endless turn, as far as they go); registers 0 .. 3 of kinds 0 .. 3,
   * then 0, 0L, an endless double, -0.0f; strips 0 .. 3 of lanes 0 .. 3 with two places, 4 with none, 5 gone; pointers
   * 0 .. 3 of sorts 0 .. 3; stands 0 .. 3 of sorts 0 .. 3 with two places, the second one bare.
   */
  private static void world(Trial x) {
    x.wheel(2, Trial.d(3.5));
    x.wheel(3, Trial.d(-2.5));
    x.wheel(3, Trial.d(Trial.ENDLESS));
    x.turn(0, Trial.d(1.25));
    x.turn(1, Trial.d(-1.5));
    x.turn(2, Trial.d(Double.MAX_VALUE));
    for (int i = 0; i < 8; i++) x.register(i == LONG_0 ? 1 : i == ENDLESS ? 3 : i == BELOW_0 ? 2 : i % 4);
    for (int i = 0; i < 4; i++) x.load(i, 3, Trial.d(-7.25));
    x.load(ENDLESS, 3, Trial.d(Trial.ENDLESS));
    x.load(BELOW_0, 3, Trial.d(-0.0));
    for (int lane = 0; lane < 4; lane++) {
      x.strip(lane, 2);
      x.keep(lane, lane, 0, DOUBLE);
      x.keep(lane, lane, 1, LONG);
    }
    x.strip(1, 0);
    x.strip(2, 2);
    x.tear(GONE);
    for (int sort = 0; sort < 4; sort++) {
      x.pointer(sort, 1);
      x.stand(sort, 2);
      x.hang(sort, 0, sort);
    }
  }

  private static void refuses(String sentence, int why, Sentences.Call call) {
    sentences.refuses(sentence, why, RefusalsTest::world, call);
  }

  private static void wheel() {
    for (int kind : new int[] {0, 1, -1, 4, LEAST, GREATEST}) {
      refuses("wheel: of a KIND (2, 3); BAD", BAD, x -> x.wheel(kind, Trial.d(1.0)));
    }
    for (int kind = 2; kind <= 3; kind++) {
      int of = kind;
      for (long bits : NO_DOUBLES) refuses("BITS of what is no number are BAD", BAD, x -> x.wheel(of, bits));
      refuses("wheel: BAD: also a TURN that is 0", BAD, x -> x.wheel(of, Trial.d(0.0)));
      refuses("wheel: BAD: also a TURN that is 0, with a sign", BAD, x -> x.wheel(of, Trial.d(-0.0)));
    }
    for (double turn : new double[] {Double.MIN_VALUE, 0x1p-150, -Double.MIN_VALUE, -0x1p-150}) {
      refuses("wheel: BAD: also a TURN that is 0 then (as a float)", BAD, x -> x.wheel(2, Trial.d(turn)));
    }
    Sentences.Check ten = x -> {
      world(x);
      for (int i = 3; i < 10; i++) x.due(i, x.wheel(2 + i % 2, Trial.d(i)));
      x.turn(9, Trial.d(0.5));
    };
    for (int kind = 2; kind <= 3; kind++) {
      int of = kind;
      sentences.refuses("WHEELS, 10 at most; FULL", FULL, ten, x -> x.wheel(of, Trial.d(1.0)));
      sentences.refuses("wheel: BAD, then FULL", BAD, ten, x -> x.wheel(of, Trial.d(-0.0)));
      sentences.refuses("wheel: BAD, then FULL", BAD, ten, x -> x.wheel(of, NO_DOUBLES[0]));
    }
    sentences.refuses("wheel: BAD, then FULL", BAD, ten, x -> x.wheel(1, Trial.d(1.0)));
  }

  private static void turn() {
    for (int wheel : NO_WHEELS) {
      refuses("turn: BAD: no such", BAD, x -> x.turn(wheel, Trial.d(1.0)));
      refuses("turn: BAD, then SPUN", BAD, x -> x.turn(wheel, Trial.d(Trial.ENDLESS)));
    }
    for (int wheel = 0; wheel < 3; wheel++) {
      int of = wheel;
      for (long bits : NO_DOUBLES) refuses("BITS of what is no number are BAD", BAD, x -> x.turn(of, bits));
      refuses("if SUM is endless, that is SPUN, and all stays", SPUN, x -> x.turn(of, Trial.d(Trial.ENDLESS)));
      refuses("if SUM is endless, that is SPUN, and all stays", SPUN, x -> x.turn(of, Trial.d(-Trial.ENDLESS)));
    }
    refuses("SPUN: endless once CAST to its KIND", SPUN, x -> x.turn(0, Trial.d(0x1p128)));
    refuses("SPUN: endless once CAST to its KIND", SPUN, x -> x.turn(0, Trial.d(-0x1p128)));
    refuses("SPUN: both are numbers, their SUM is endless", SPUN, x -> x.turn(2, Trial.d(Double.MAX_VALUE)));
    refuses("SPUN: both are numbers, their SUM is endless", SPUN, x -> x.turn(2, Trial.d(0x1p970)));
  }

  private static void wheelOf() {
    for (int wheel : NO_WHEELS) {
      refuses("wheelOf: BAD: no such", BAD, x -> x.wheelOf(wheel, 0));
      refuses("wheelOf: BAD: no such", BAD, x -> x.wheelOf(wheel, 1));
    }
    for (int what : new int[] {-1, 2, LEAST, GREATEST}) {
      refuses("wheelOf: POSITION (what = 0), TURN (1); BAD", BAD, x -> x.wheelOf(1, what));
    }
  }

  private static void register() {
    for (int kind : NO_KINDS) refuses("register: of a KIND; BAD", BAD, x -> x.register(kind));
    Sentences.Check sixteen = x -> {
      world(x);
      for (int i = 8; i < 16; i++) x.due(i, x.register(i % 4));
      x.load(15, 0, 5L);
    };
    for (int kind = 0; kind <= 3; kind++) {
      int of = kind;
      sentences.refuses("REGISTERS, 16 at most; FULL", FULL, sixteen, x -> x.register(of));
    }
    for (int kind : NO_KINDS) sentences.refuses("register: BAD, then FULL", BAD, sixteen, x -> x.register(kind));
  }

  private static void load() {
    for (int kind = 0; kind <= 3; kind++) {
      int of = kind;
      for (int register : NO_REGISTERS) refuses("load: BAD: no such", BAD, x -> x.load(register, of, 1L));
      for (long bits : NO_DOUBLES) refuses("BITS of what is no number are BAD", BAD, x -> x.load(of, 3, bits));
      for (int bits : new int[] {0x7f800001, 0x7fc00000, GREATEST, 0xff800001, 0xffc00000, -1}) {
        refuses("BITS of what is no number are BAD", BAD, x -> x.load(of, 2, bits));
        refuses("of float the lowest 32", BAD, x -> x.load(of, 2, bits & 0xffffffffL));
        refuses("of float the lowest 32", BAD, x -> x.load(of, 2, bits & 0xffffffffL | 0x1234567800000000L));
      }
      for (int no : NO_KINDS) refuses("load: a value of a KIND; BAD", BAD, x -> x.load(of, no, 1L));
    }
  }

  private static void readMoveTake() {
    for (int register : NO_REGISTERS) {
      for (int kind = 0; kind <= 3; kind++) {
        int of = kind;
        refuses("read: BAD: no such", BAD, x -> x.read(register, of));
        refuses("move: BAD: no such", BAD, x -> x.move(register, of));
        refuses("move: BAD: no such", BAD, x -> x.move(of, register));
      }
      refuses("move: BAD: no such, both", BAD, x -> x.move(register, register));
      refuses("take: BAD: no such", BAD, x -> x.take(1, register));
      refuses("take: BAD: no such, both", BAD, x -> x.take(3, register));
    }
    for (int kind : NO_KINDS) refuses("read: CAST to a KIND; BAD", BAD, x -> x.read(DOUBLE, kind));
    for (int wheel : NO_WHEELS) refuses("take: BAD: no such", BAD, x -> x.take(wheel, DOUBLE));
  }

  private static void work() {
    for (int what : new int[] {-1, 5, LEAST, GREATEST}) {
      refuses("work: what = 0 .. 4; BAD", BAD, x -> x.work(what, INT, LONG, DOUBLE));
    }
    for (int register : NO_REGISTERS) {
      for (int what = 0; what <= 4; what++) {
        int of = what;
        refuses("work: BAD: no such", BAD, x -> x.work(of, register, LONG, DOUBLE));
        refuses("work: BAD: no such", BAD, x -> x.work(of, INT, register, DOUBLE));
        refuses("work: BAD: no such", BAD, x -> x.work(of, INT, LONG, register));
      }
      refuses("work: BAD, then ZERO", BAD, x -> x.work(3, INT, INT_0, register));
      refuses("work: BAD, then ZERO", BAD, x -> x.work(4, register, LONG_0, INT));
      refuses("work: BAD, then VOID", BAD, x -> x.work(1, ENDLESS, ENDLESS, register));
      refuses("work: BAD, then VOID", BAD, x -> x.work(4, register, BELOW_0, INT));
    }
    for (int to = 0; to < 8; to++) {
      int third = to;
      for (int what = 3; what <= 4; what++) {
        int of = what;
        refuses("ZERO: 3, 4 of ints by 0", ZERO, x -> x.work(of, INT, INT_0, third));
        refuses("ZERO: 3, 4 of an int by a long 0", ZERO, x -> x.work(of, INT, LONG_0, third));
        refuses("ZERO: 3, 4 of a long by an int 0", ZERO, x -> x.work(of, LONG, INT_0, third));
        refuses("ZERO: 3, 4 of longs by 0", ZERO, x -> x.work(of, LONG, LONG_0, third));
      }
    }
    for (int what = 3; what <= 4; what++) {
      int of = what;
      refuses("ZERO: also 0 by 0 of ints", ZERO, x -> x.work(of, INT_0, INT_0, INT));
      refuses("ZERO: also 0 by 0 of longs", ZERO, x -> x.work(of, LONG_0, LONG_0, LONG));
    }
  }

  private static void workVoid() {
    for (int to = 0; to < 8; to++) {
      int third = to;
      refuses("VOID: both endless, of the same (1)", VOID, x -> x.work(1, ENDLESS, ENDLESS, third));
      refuses("VOID: 0 and an endless one (2)", VOID, x -> x.work(2, BELOW_0, ENDLESS, third));
      refuses("VOID: 0 and an endless one (2)", VOID, x -> x.work(2, ENDLESS, INT_0, third));
      refuses("VOID: both 0 (3)", VOID, x -> x.work(3, LONG_0, BELOW_0, third));
      refuses("VOID: both endless (3)", VOID, x -> x.work(3, ENDLESS, ENDLESS, third));
      refuses("VOID: the second one 0 (4)", VOID, x -> x.work(4, DOUBLE, BELOW_0, third));
      refuses("VOID: the first one endless (4)", VOID, x -> x.work(4, ENDLESS, DOUBLE, third));
      sentences.refuses("VOID: both endless and of other signs (0)", VOID, x -> {
        world(x);
        x.load(BELOW_0, 2, Trial.f(Float.NEGATIVE_INFINITY));
      }, x -> x.work(0, BELOW_0, ENDLESS, third));
    }
  }

  private static void strip() {
    for (int lane : NO_KINDS) refuses("strip: of a LANE; BAD", BAD, x -> x.strip(lane, 1));
    for (int lane = 0; lane <= 3; lane++) {
      int of = lane;
      for (int n : new int[] {-1, 17, LEAST, GREATEST}) refuses("STRIPS: 0 to 16 PLACES; BAD", BAD, x -> x.strip(of, n));
    }
    Sentences.Check eight = x -> {
      world(x);
      x.due(6, x.strip(3, 0));
      x.due(7, x.strip(0, 1));
      x.keep(7, 0, 0, INT);
    };
    for (int lane = 0; lane <= 3; lane++) {
      int of = lane;
      sentences.refuses("STRIPS, 8 at most (a GONE one among them); FULL", FULL, eight, x -> x.strip(of, 1));
      sentences.refuses("STRIPS, 8 at most, one of no PLACES too; FULL", FULL, eight, x -> x.strip(of, 0));
      sentences.refuses("strip: BAD, then FULL", BAD, eight, x -> x.strip(of, 17));
      sentences.refuses("strip: BAD, then FULL", BAD, eight, x -> x.strip(of, -1));
    }
    sentences.refuses("strip: BAD, then FULL", BAD, eight, x -> x.strip(4, 1));
  }

  private static void tear() {
    for (int strip : NO_STRIPS) refuses("tear: BAD: no such", BAD, x -> x.tear(strip));
  }

  private static void keep() {
    for (int strip : NO_STRIPS) refuses("keep: BAD: no such", BAD, x -> x.keep(strip, 0, 0, INT));
    for (int lane : NO_KINDS) {
      refuses("keep: a row of a LANE; BAD", BAD, x -> x.keep(0, lane, 0, INT));
      refuses("keep: BAD, then NULL", BAD, x -> x.keep(GONE, lane, 0, INT));
      refuses("keep: BAD, then INDEX", BAD, x -> x.keep(0, lane, 2, INT));
    }
    for (int register : NO_REGISTERS) {
      refuses("keep: BAD: no such", BAD, x -> x.keep(0, 0, 0, register));
      refuses("keep: BAD, then CAST", BAD, x -> x.keep(0, 1, 0, register));
      refuses("keep: BAD, then NULL", BAD, x -> x.keep(GONE, 2, 0, register));
      refuses("keep: BAD, then INDEX", BAD, x -> x.keep(0, 0, 2, register));
    }
    for (int strip = 0; strip <= 3; strip++) {
      int of = strip;
      for (int lane = 0; lane <= 3; lane++) {
        int as = lane;
        if (lane != strip) {
          refuses("keep: CAST: it is of another LANE", CAST, x -> x.keep(of, as, 0, DOUBLE));
          refuses("keep: CAST, then INDEX", CAST, x -> x.keep(of, as, 2, DOUBLE));
          refuses("keep: CAST, then INDEX", CAST, x -> x.keep(of, as, -1, DOUBLE));
        }
      }
      for (int i : NO_PLACES) refuses("keep: INDEX", INDEX, x -> x.keep(of, of, i, DOUBLE));
      refuses("keep: NULL: it is GONE (GONE ones are of none)", NULL, x -> x.keep(GONE, of, 0, DOUBLE));
      refuses("keep: NULL, then INDEX", NULL, x -> x.keep(GONE, of, 2, DOUBLE));
      refuses("keep: NULL, then INDEX", NULL, x -> x.keep(GONE, of, -1, DOUBLE));
    }
    refuses("keep: INDEX of a STRIP with no PLACES", INDEX, x -> x.keep(NO_PLACE_STRIP, 1, 0, LONG));
    refuses("keep: CAST of a STRIP with no PLACES", CAST, x -> x.keep(NO_PLACE_STRIP, 0, 0, LONG));
  }

  private static void kept() {
    for (int strip : NO_STRIPS) refuses("kept: BAD: no such", BAD, x -> x.kept(strip, 0, 0));
    for (int lane : NO_KINDS) {
      refuses("kept: a row of a LANE; BAD", BAD, x -> x.kept(0, lane, 0));
      refuses("kept: BAD, then NULL", BAD, x -> x.kept(GONE, lane, 0));
      refuses("kept: BAD, then INDEX", BAD, x -> x.kept(0, lane, 2));
    }
    for (int strip = 0; strip <= 3; strip++) {
      int of = strip;
      for (int lane = 0; lane <= 3; lane++) {
        int as = lane;
        if (lane != strip) {
          refuses("kept: CAST: it is of another LANE", CAST, x -> x.kept(of, as, 0));
          refuses("kept: CAST, then INDEX", CAST, x -> x.kept(of, as, 2));
          refuses("kept: CAST, then INDEX", CAST, x -> x.kept(of, as, -1));
        }
      }
      for (int i : NO_PLACES) refuses("kept: INDEX", INDEX, x -> x.kept(of, of, i));
      refuses("kept: NULL: it is GONE (GONE ones are of none)", NULL, x -> x.kept(GONE, of, 0));
      refuses("kept: NULL, then INDEX", NULL, x -> x.kept(GONE, of, 2));
      refuses("kept: NULL, then INDEX", NULL, x -> x.kept(GONE, of, -1));
    }
    refuses("kept: INDEX of a STRIP with no PLACES", INDEX, x -> x.kept(NO_PLACE_STRIP, 1, 0));
    refuses("kept: CAST of a STRIP with no PLACES", CAST, x -> x.kept(NO_PLACE_STRIP, 0, 0));
  }

  private static void rests() {
    for (int strip : NO_STRIPS) refuses("rests: BAD: no such", BAD, x -> x.rests(strip, DOUBLE));
    for (int register : NO_REGISTERS) {
      refuses("rests: BAD: no such", BAD, x -> x.rests(3, register));
      refuses("rests: BAD, then CAST", BAD, x -> x.rests(0, register));
      refuses("rests: BAD, then NULL", BAD, x -> x.rests(GONE, register));
    }
    for (int register = 0; register <= 3; register++) {
      int of = register;
      refuses("rests: CAST: it is of ints", CAST, x -> x.rests(0, of));
      refuses("rests: CAST: it is of longs", CAST, x -> x.rests(1, of));
      refuses("rests: CAST: it is of longs, none there", CAST, x -> x.rests(NO_PLACE_STRIP, of));
      refuses("rests: NULL", NULL, x -> x.rests(GONE, of));
      for (int lane = 0; lane <= 3; lane++) {
        int strip = lane;
        sentences.refuses("rests: NULL: GONE ones are of no LANE, so this is no CAST", NULL, x -> {
          world(x);
          x.tear(strip);
        }, x -> x.rests(strip, of));
      }
    }
  }

  private static void pointer() {
    for (int sort : NO_KINDS) refuses("pointer: of a sort 0 .. 3; BAD", BAD, x -> x.pointer(sort, 0));
    for (int sort = 0; sort <= 3; sort++) {
      int of = sort;
      for (int wheel : NO_WHEELS) refuses("pointer: BAD: no such", BAD, x -> x.pointer(of, wheel));
    }
    Sentences.Check twelve = x -> {
      world(x);
      for (int i = 4; i < 12; i++) x.due(i, x.pointer(i % 2, 2));
      x.hang(3, 1, 11);
    };
    for (int sort = 0; sort <= 3; sort++) {
      int of = sort;
      sentences.refuses("POINTERS, 12 at most; FULL", FULL, twelve, x -> x.pointer(of, 0));
      sentences.refuses("pointer: BAD, then FULL", BAD, twelve, x -> x.pointer(of, 3));
      sentences.refuses("pointer: BAD, then FULL", BAD, twelve, x -> x.pointer(of, -1));
    }
    sentences.refuses("pointer: BAD, then FULL", BAD, twelve, x -> x.pointer(4, 0));
    sentences.refuses("pointer: BAD, then FULL", BAD, twelve, x -> x.pointer(-1, 0));
  }

  private static void stand() {
    for (int sort : NO_KINDS) refuses("stand: of a sort 0 .. 3; BAD", BAD, x -> x.stand(sort, 1));
    for (int sort = 0; sort <= 3; sort++) {
      int of = sort;
      for (int n : new int[] {-1, 0, 7, LEAST, GREATEST}) refuses("STANDS: 1 to 6 PLACES; BAD", BAD, x -> x.stand(of, n));
    }
    Sentences.Check eight = x -> {
      world(x);
      for (int i = 4; i < 8; i++) x.due(i, x.stand(i % 4, 1));
      x.hang(7, 0, 3);
    };
    for (int sort = 0; sort <= 3; sort++) {
      int of = sort;
      sentences.refuses("STANDS, 8 at most; FULL", FULL, eight, x -> x.stand(of, 1));
      sentences.refuses("stand: BAD, then FULL", BAD, eight, x -> x.stand(of, 0));
      sentences.refuses("stand: BAD, then FULL", BAD, eight, x -> x.stand(of, 7));
    }
    sentences.refuses("stand: BAD, then FULL", BAD, eight, x -> x.stand(4, 1));
  }

  private static void set() {
    for (int stand : NO_STANDS) {
      refuses("set: BAD: no such", BAD, x -> x.set(stand, 0, 0));
      refuses("set: BAD: no such, nothing for it", BAD, x -> x.set(stand, 0, NONE));
      refuses("set: BAD, then CAST", BAD, x -> x.set(stand, 0, 3));
    }
    for (int pointer : NO_POINTERS) {
      refuses("set: BAD: no such", BAD, x -> x.set(0, 0, pointer));
      refuses("set: BAD, then CAST", BAD, x -> x.set(3, 0, pointer));
      refuses("set: BAD, then INDEX", BAD, x -> x.set(0, 2, pointer));
    }
    for (int stand = 0; stand <= 3; stand++) {
      int of = stand;
      refuses("set: CAST: a LAMP is no HAND", CAST, x -> x.set(of, 0, 3));
      refuses("set: CAST: a LAMP is no HAND", CAST, x -> x.set(of, 1, 3));
      for (int i : NO_PLACES) refuses("set: CAST, then INDEX", CAST, x -> x.set(of, i, 3));
    }
    for (int pointer = NONE; pointer <= 3; pointer++) {
      int of = pointer;
      refuses("set: CAST: 3 does not go as a row of HANDS", CAST, x -> x.set(3, 0, of));
      refuses("set: CAST: 3 does not go as a row of HANDS", CAST, x -> x.set(3, 1, of));
      for (int i : NO_PLACES) refuses("set: CAST, then INDEX", CAST, x -> x.set(3, i, of));
    }
    for (int i : NO_PLACES) {
      for (int pointer = NONE; pointer <= 2; pointer++) {
        int of = pointer;
        refuses("set: INDEX", INDEX, x -> x.set(0, i, of));
        refuses("set: INDEX, then STORE", INDEX, x -> x.set(1, i, of));
        refuses("set: INDEX, then STORE", INDEX, x -> x.set(2, i, of));
      }
    }
    for (int i = 0; i <= 1; i++) {
      int at = i;
      refuses("set: STORE: FINE ones, and a COARSE one", STORE, x -> x.set(1, at, 0));
      refuses("set: STORE: VERNIERS, and a COARSE one", STORE, x -> x.set(2, at, 0));
      refuses("set: STORE: VERNIERS, and a FINE one", STORE, x -> x.set(2, at, 1));
    }
  }

  private static void hang() {
    for (int stand : NO_STANDS) {
      refuses("hang: BAD: no such", BAD, x -> x.hang(stand, 0, 0));
      refuses("hang: BAD: no such, nothing for it", BAD, x -> x.hang(stand, 0, NONE));
    }
    for (int pointer : NO_POINTERS) {
      refuses("hang: BAD: no such", BAD, x -> x.hang(3, 0, pointer));
      refuses("hang: BAD, then INDEX", BAD, x -> x.hang(3, 2, pointer));
      refuses("hang: BAD, then STORE", BAD, x -> x.hang(2, 0, pointer));
    }
    for (int stand = 0; stand <= 3; stand++) {
      int of = stand;
      for (int i : NO_PLACES) {
        for (int pointer = NONE; pointer <= 3; pointer++) {
          int put = pointer;
          refuses("hang: INDEX, then STORE", INDEX, x -> x.hang(of, i, put));
        }
      }
    }
    for (int i = 0; i <= 1; i++) {
      int at = i;
      refuses("hang: STORE: HANDS, and a LAMP", STORE, x -> x.hang(0, at, 3));
      refuses("hang: STORE: FINE ones, and a LAMP", STORE, x -> x.hang(1, at, 3));
      refuses("hang: STORE: FINE ones, and a COARSE one", STORE, x -> x.hang(1, at, 0));
      refuses("hang: STORE: VERNIERS, and a LAMP", STORE, x -> x.hang(2, at, 3));
      refuses("hang: STORE: VERNIERS, and a COARSE one", STORE, x -> x.hang(2, at, 0));
      refuses("hang: STORE: VERNIERS, and a FINE one", STORE, x -> x.hang(2, at, 1));
    }
  }

  private static void show() {
    for (int stand : NO_STANDS) {
      refuses("show: BAD: no such", BAD, x -> x.show(stand, 0));
      refuses("show: BAD, then INDEX", BAD, x -> x.show(stand, 2));
    }
    for (int stand = 0; stand <= 3; stand++) {
      int of = stand;
      for (int i : NO_PLACES) refuses("show: INDEX", INDEX, x -> x.show(of, i));
      refuses("show: NULL: nothing is there", NULL, x -> x.show(of, 1));
      sentences.refuses("show: NULL: nothing is there any more", NULL, x -> {
        world(x);
        x.hang(of, 0, NONE);
      }, x -> x.show(of, 0));
    }
  }

  private static void all() {
    for (int stand : NO_STANDS) refuses("all: BAD: no such", BAD, x -> x.all(stand));
  }

  /** With as many of all as there may be, the number after the last one is that of no such thing. */
  private static void allAreThere() {
    Sentences.Check most = x -> {
      for (int i = 0; i < 10; i++) x.wheel(3, Trial.d(2.0));
      for (int i = 0; i < 16; i++) x.register(3);
      for (int i = 0; i < 8; i++) x.strip(3, 1);
      for (int i = 0; i < 12; i++) x.pointer(1, 9);
      for (int i = 0; i < 8; i++) x.stand(1, 1);
      x.turn(9, Trial.d(1.5));
      x.take(9, 15);
      x.keep(7, 3, 0, 15);
      x.set(7, 0, 11);
    };
    Sentences.Call[] calls = {
      x -> x.turn(10, 0L), x -> x.wheelOf(10, 0), x -> x.take(10, 15), x -> x.load(16, 0, 0L), x -> x.read(16, 0),
      x -> x.move(16, 15), x -> x.move(15, 16), x -> x.take(9, 16), x -> x.work(0, 16, 15, 15),
      x -> x.work(0, 15, 16, 15), x -> x.work(0, 15, 15, 16), x -> x.tear(8), x -> x.keep(8, 3, 0, 15),
      x -> x.keep(7, 3, 0, 16), x -> x.kept(8, 3, 0), x -> x.rests(8, 15), x -> x.rests(7, 16), x -> x.set(8, 0, 11),
      x -> x.set(7, 0, 12), x -> x.set(8, 0, NONE), x -> x.hang(8, 0, 11), x -> x.hang(7, 0, 12),
      x -> x.hang(8, 0, NONE), x -> x.show(8, 0), x -> x.all(8)};
    for (Sentences.Call call : calls) sentences.refuses("BAD: no such", BAD, most, call);
    sentences.refuses("pointer: BAD, then FULL", BAD, most, x -> x.pointer(1, 10));
  }

  /** On a new object every number is that of no such thing. */
  private static void nothingIsThere() {
    Sentences.Check nothing = x -> { };
    Sentences.Call[] calls = {
      x -> x.turn(0, 0L), x -> x.wheelOf(0, 0), x -> x.load(0, 0, 0L), x -> x.read(0, 0), x -> x.move(0, 0),
      x -> x.take(0, 0), x -> x.work(0, 0, 0, 0), x -> x.tear(0), x -> x.keep(0, 0, 0, 0), x -> x.kept(0, 0, 0),
      x -> x.rests(0, 0), x -> x.pointer(0, 0), x -> x.set(0, 0, 0), x -> x.set(0, 0, NONE), x -> x.hang(0, 0, 0),
      x -> x.hang(0, 0, NONE), x -> x.show(0, 0), x -> x.all(0)};
    for (Sentences.Call call : calls) sentences.refuses("A new object: Nothing.", BAD, nothing, call);
  }
}
