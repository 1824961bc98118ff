/** Promises 11 to 17: what is asked of functions. */
public final class AskedTest {
  private static final Checks CHECKS = new Checks();
  private static final int MIN = Integer.MIN_VALUE;
  private static final int MAX = Integer.MAX_VALUE;

  public static void main(String[] args) {
    value();
    half();
    differ();
    byPrimes();
    byPrimesBeyond();
    inverse();
    total();
    totalOfProduct();
    totalOfProductSizes();
    determinant();
    determinantWrong();
    askingIsNoAct();
    CHECKS.end();
  }

  private static void due(String what, Object want, Checks.Call call) {
    CHECKS.due(what, want, call);
  }

  private static void putLong(Divisorwork x, int function, int n, long number) {
    Checks.putLong(x, function, n, number);
  }

  private static void value() {
    Divisorwork x = new Divisorwork();
    long[] all = {0, 1, -1, 9, -9, 10, -10, 99, 100, 1000000000000000000L, -1000000000000000000L,
      999999999999999999L, Long.MAX_VALUE, Long.MIN_VALUE, Long.MIN_VALUE + 1, 4294967296L, -4294967297L};
    for (long number : all) {
      putLong(x, 2, 120, number);
      due("value(2, 120)", Long.toString(number), () -> x.value(2, 120));
    }
    CHECKS.thrown("value(-1, 1)", Checks.INDEX, x, () -> x.value(-1, 1));
    CHECKS.thrown("value(4, 0)", Checks.INDEX, x, () -> x.value(4, 0));
    CHECKS.thrown("value(0, 0)", Checks.ARGUMENT, x, () -> x.value(0, 0));
    CHECKS.thrown("value(3, 121)", Checks.ARGUMENT, x, () -> x.value(3, 121));
    CHECKS.thrown("value(3, MIN)", Checks.ARGUMENT, x, () -> x.value(3, MIN));
  }

  private static void half() {
    Divisorwork x = new Divisorwork();
    x.putWide(1, 120, MIN, MAX);
    due("half(1, 120, true)", MIN, () -> x.half(1, 120, true));
    due("half(1, 120, false)", MAX, () -> x.half(1, 120, false));
    x.put(1, 1, -2);
    due("half(1, 1, true)", -1, () -> x.half(1, 1, true));
    due("half(1, 1, false)", -2, () -> x.half(1, 1, false));
    x.putWide(1, 1, 5, -7);
    due("half(1, 1, true)", 5, () -> x.half(1, 1, true));
    due("half(1, 1, false)", -7, () -> x.half(1, 1, false));
    CHECKS.thrown("half(4, 0, true)", Checks.INDEX, x, () -> x.half(4, 0, true));
    CHECKS.thrown("half(-1, 1, true)", Checks.INDEX, x, () -> x.half(-1, 1, true));
    CHECKS.thrown("half(0, 0, true)", Checks.ARGUMENT, x, () -> x.half(0, 0, true));
    CHECKS.thrown("half(0, 121, false)", Checks.ARGUMENT, x, () -> x.half(0, 121, false));
  }

  private static void differ() {
    Divisorwork x = new Divisorwork();
    due("differ(0, 1)", -1, () -> x.differ(0, 1));
    x.put(1, 120, 1);
    due("differ(0, 1) at 120", 120, () -> x.differ(0, 1));
    due("differ(1, 0) at 120", 120, () -> x.differ(1, 0));
    x.putWide(1, 7, 1, 0);
    due("differ(0, 1) by the upper half", 7, () -> x.differ(0, 1));
    x.put(0, 1, 1);
    due("differ(0, 1) at 1", 1, () -> x.differ(0, 1));
    due("differ(1, 1)", -1, () -> x.differ(1, 1));
    CHECKS.thrown("differ(-1, 0)", Checks.INDEX, x, () -> x.differ(-1, 0));
    CHECKS.thrown("differ(0, -1)", Checks.INDEX, x, () -> x.differ(0, -1));
    CHECKS.thrown("differ(4, 0)", Checks.INDEX, x, () -> x.differ(4, 0));
    CHECKS.thrown("differ(0, 4)", Checks.INDEX, x, () -> x.differ(0, 4));
  }

  private static void byPrimes() {
    boolean[] wholly = {true, true, true, false, false, false, false, false, true, false, true};
    for (int which = 0; which <= 10; which++) {
      Divisorwork x = new Divisorwork();
      x.know(3, which);
      due("is(3, 0) of KNOWN " + which, true, () -> x.is(3, 0));
      due("is(3, 1) of KNOWN " + which, wholly[which], () -> x.is(3, 1));
    }
    Divisorwork x = new Divisorwork();
    due("is(0, 0) of 0", false, () -> x.is(0, 0));
    due("is(0, 1) of 0", false, () -> x.is(0, 1));
    x.know(0, 2);
    x.put(0, 120, 119);
    due("is(0, 0) with 119 at 120", false, () -> x.is(0, 0));
    due("is(0, 1) with 119 at 120", false, () -> x.is(0, 1));
    x.know(0, 2);
    x.put(0, 113, 5);
    due("is(0, 1) with another one at a prime above 60", true, () -> x.is(0, 1));
    x.put(0, 64, 5);
    due("is(0, 0) with another one at 64", true, () -> x.is(0, 0));
    due("is(0, 1) with another one at 64", false, () -> x.is(0, 1));
    x.know(0, 1);
    x.put(0, 1, -1);
    due("is(0, 0) with -1 at 1", false, () -> x.is(0, 0));
    CHECKS.thrown("is(4, 4)", Checks.INDEX, x, () -> x.is(4, 4));
    CHECKS.thrown("is(-1, 0)", Checks.INDEX, x, () -> x.is(-1, 0));
    CHECKS.thrown("is(0, 4)", Checks.ARGUMENT, x, () -> x.is(0, 4));
    CHECKS.thrown("is(0, -1)", Checks.ARGUMENT, x, () -> x.is(0, -1));
  }

  /** F at 11 by F at 8 wraps onto F at 88, but it is not LET, so not the same. */
  private static void byPrimesBeyond() {
    Divisorwork x = new Divisorwork();
    x.know(0, 0);
    putLong(x, 0, 11, 1L << 32);
    putLong(x, 0, 8, 1L << 32);
    due("2^32 by 2^32 is not 0", false, () -> x.is(0, 0));
    x.know(0, 0);
    putLong(x, 0, 11, Long.MIN_VALUE);
    putLong(x, 0, 8, -1);
    putLong(x, 0, 88, Long.MIN_VALUE);
    due("-2^63 by -1 is not -2^63", false, () -> x.is(0, 0));
    putLong(x, 0, 8, 1);
    due("-2^63 by 1 is -2^63", true, () -> x.is(0, 0));
    x.know(0, 0);
    putLong(x, 0, 8, Long.MIN_VALUE);
    putLong(x, 0, 11, -1);
    putLong(x, 0, 88, Long.MIN_VALUE);
    due("-1 by -2^63 is not -2^63", false, () -> x.is(0, 0));
    x.know(0, 0);
    putLong(x, 0, 7, 1L << 32);
    due("2^32 by itself is not 0 at 49", false, () -> x.is(0, 1));
    due("no need of 49", true, () -> x.is(0, 0));
  }

  private static void inverse() {
    Divisorwork x = new Divisorwork();
    due("is(0, 2) of 0", false, () -> x.is(0, 2));
    due("is(0, 3) of 0", false, () -> x.is(0, 3));
    int[] firsts = {1, -1, 2, -2};
    for (int first : firsts) {
      x.put(0, 1, first);
      due("is(0, 2) with " + first + " at 1", first == 1 || first == -1, () -> x.is(0, 2));
      due("is(0, 3) with " + first + " at 1", first == 1 || first == -1, () -> x.is(0, 3));
    }
    x.know(0, 0);
    putLong(x, 0, 113, Long.MIN_VALUE);
    due("is(0, 2) with -2^63", true, () -> x.is(0, 2));
    due("is(0, 3) with -2^63", false, () -> x.is(0, 3));
    putLong(x, 0, 113, Long.MAX_VALUE);
    due("is(0, 3) with 2^63 - 1", true, () -> x.is(0, 3));
    putLong(x, 0, 2, 1000);
    due("is(0, 3) with 1000^6", true, () -> x.is(0, 3));
    putLong(x, 0, 2, 2000);
    due("is(0, 3) with 2000^6", false, () -> x.is(0, 3));
  }

  private static void total() {
    Divisorwork x = new Divisorwork();
    x.know(0, 2);
    due("total(0, 0)", 0, () -> x.total(0, 0));
    due("total(0, 1)", 1, () -> x.total(0, 1));
    due("total(0, 120)", 7260, () -> x.total(0, 120));
    x.know(0, 3);
    due("total(0, 13)", -3, () -> x.total(0, 13));
    putLong(x, 1, 3, Long.MIN_VALUE);
    due("total(1, 120)", Long.MIN_VALUE, () -> x.total(1, 120));
    x.put(1, 60, -1);
    x.put(1, 61, 5);
    due("total(1, 59)", Long.MIN_VALUE, () -> x.total(1, 59));
    CHECKS.thrown("total(1, 60)", Checks.STATE, x, () -> x.total(1, 60));
    CHECKS.thrown("total(1, 120), back again", Checks.STATE, x, () -> x.total(1, 120));
    CHECKS.thrown("total(1, 121)", Checks.ARGUMENT, x, () -> x.total(1, 121));
    CHECKS.thrown("total(0, -1)", Checks.ARGUMENT, x, () -> x.total(0, -1));
    CHECKS.thrown("total(4, 121)", Checks.INDEX, x, () -> x.total(4, 121));
    CHECKS.thrown("total(-1, 0)", Checks.INDEX, x, () -> x.total(-1, 0));
    putLong(x, 1, 3, Long.MAX_VALUE);
    x.put(1, 60, 1);
    CHECKS.thrown("total(1, 60) above", Checks.STATE, x, () -> x.total(1, 60));
    due("an act beyond", -9, () -> x.meet(1, 1, 0, 1));
    due("total(0, 9) after what went beyond", -2, () -> x.total(0, 9));
    x.put(1, 1, -1);
    due("total(1, 60)", Long.MAX_VALUE, () -> x.total(1, 60));
  }

  /** The TOTAL of the PRODUCT, beside that one made and summed up. */
  private static void totalOfProductEverywhere(Divisorwork x, String what) {
    x.multiply(0, 1, 2);
    for (int n = 1; n <= 120; n++) {
      int last = n;
      String want = x.total(2, n);
      for (int how = 0; how <= 2; how++) {
        int way = how;
        due("totalOfProduct of " + what + ", up to " + n + ", how " + how, want,
            () -> x.totalOfProduct(0, 1, last, way));
      }
    }
  }

  private static void totalOfProduct() {
    Divisorwork x = new Divisorwork();
    x.know(0, 1);
    x.know(1, 2);
    Divisorwork known = new Divisorwork();
    known.know(0, 1);
    known.know(1, 2);
    totalOfProductEverywhere(known, "1 and n");
    Divisorwork sown = new Divisorwork();
    sown.sow(0, 4711, 500);
    sown.sow(1, 1848, 500);
    totalOfProductEverywhere(sown, "two sown ones");
    due("SIGMA up to 5", 21, () -> x.totalOfProduct(0, 1, 5, 2));
    CHECKS.thrown("totalOfProduct(-1, 0, 0, 0)", Checks.INDEX, x, () -> x.totalOfProduct(-1, 0, 0, 0));
    CHECKS.thrown("totalOfProduct(0, 4, 1, 3)", Checks.INDEX, x, () -> x.totalOfProduct(0, 4, 1, 3));
    CHECKS.thrown("totalOfProduct(4, 0, 1, 0)", Checks.INDEX, x, () -> x.totalOfProduct(4, 0, 1, 0));
    CHECKS.thrown("totalOfProduct(0, -1, 1, 0)", Checks.INDEX, x, () -> x.totalOfProduct(0, -1, 1, 0));
    CHECKS.thrown("totalOfProduct(0, 0, 0, 0)", Checks.ARGUMENT, x, () -> x.totalOfProduct(0, 0, 0, 0));
    CHECKS.thrown("totalOfProduct(0, 0, 121, 0)", Checks.ARGUMENT, x, () -> x.totalOfProduct(0, 0, 121, 0));
    CHECKS.thrown("totalOfProduct(0, 0, 1, 3)", Checks.ARGUMENT, x, () -> x.totalOfProduct(0, 0, 1, 3));
    CHECKS.thrown("totalOfProduct(0, 0, 1, -1)", Checks.ARGUMENT, x, () -> x.totalOfProduct(0, 0, 1, -1));
  }

  private static void totalOfProductSizes() {
    for (int how = 0; how <= 2; how++) {
      int way = how;
      Divisorwork x = new Divisorwork();
      for (int n = 1; n <= 120; n++) {
        x.put(0, n, 1000000);
        x.put(1, n, -1000000);
      }
      due("greatest SIZES, how " + how, -602000000000000L, () -> x.totalOfProduct(0, 1, 120, way));
      long[] tooGreat = {1000001, -1000001, Long.MIN_VALUE, Long.MAX_VALUE};
      for (long number : tooGreat) {
        for (int function = 0; function <= 1; function++) {
          putLong(x, function, 50, number);
          CHECKS.thrown(number + " at 50, up to 50", Checks.STATE, x, () -> x.totalOfProduct(0, 1, 50, way));
          CHECKS.thrown(number + " at 50, up to 120", Checks.STATE, x, () -> x.totalOfProduct(0, 1, 120, way));
          CHECKS.thrown(number + " at 50, up to 121", Checks.ARGUMENT, x, () -> x.totalOfProduct(0, 1, 121, way));
          due(number + " at 50, up to 49", -201000000000000L, () -> x.totalOfProduct(0, 1, 49, way));
          putLong(x, function, 1, number);
          CHECKS.thrown(number + " at 1", Checks.STATE, x, () -> x.totalOfProduct(0, 1, 1, way));
          x.put(function, 1, function == 0 ? 1000000 : -1000000);
          x.put(function, 50, function == 0 ? 1000000 : -1000000);
        }
      }
    }
  }

  private static void determinant() {
    Divisorwork x = new Divisorwork();
    x.know(0, 2);
    long[] smith = {1, 1, 2, 4, 16, 32};
    x.put(1, 1, 3);
    x.put(1, 2, 10);
    x.know(2, 0);
    x.know(3, 1);
    for (int size = 1; size <= 6; size++) {
      int rows = size;
      for (int how = 0; how <= 1; how++) {
        int way = how;
        due("determinant(0, " + size + ", " + how + ")", smith[size - 1], () -> x.determinant(0, rows, way));
        due("determinant(3, " + size + ", " + how + ")", size == 1 ? 1 : 0, () -> x.determinant(3, rows, way));
      }
    }
    for (int how = 0; how <= 1; how++) {
      int way = how;
      // 3 3 / 3 10: 30 less 9; with 3 at all of 1, 3: 3 3 3 / 3 10 3 / 3 3 0.
      due("determinant(1, 1, " + how + ")", 3, () -> x.determinant(1, 1, way));
      due("determinant(1, 2, " + how + ")", 21, () -> x.determinant(1, 2, way));
      due("determinant(1, 3, " + how + ")", -63, () -> x.determinant(1, 3, way));
    }
    for (int seed = 0; seed < 40; seed++) {
      Divisorwork sown = new Divisorwork();
      sown.sow(0, seed * 999, 100);
      for (int size = 1; size <= 6; size++) {
        int rows = size;
        due("both ways, seed " + seed * 999 + ", size " + size, sown.determinant(0, size, 1),
            () -> sown.determinant(0, rows, 0));
      }
    }
  }

  private static void determinantWrong() {
    Divisorwork x = new Divisorwork();
    long[] tooGreat = {101, -101, Long.MIN_VALUE, Long.MAX_VALUE};
    for (int how = 0; how <= 1; how++) {
      int way = how;
      for (long number : tooGreat) {
        putLong(x, 0, 4, number);
        CHECKS.thrown(number + " at 4, size 4", Checks.STATE, x, () -> x.determinant(0, 4, way));
        CHECKS.thrown(number + " at 4, size 6", Checks.STATE, x, () -> x.determinant(0, 6, way));
        CHECKS.thrown(number + " at 4, size 7", Checks.ARGUMENT, x, () -> x.determinant(0, 7, way));
        putLong(x, 2, 1, number);
        CHECKS.thrown(number + " at 1, size 1", Checks.STATE, x, () -> x.determinant(2, 1, way));
        due(number + " at 4, size 3", 0, () -> x.determinant(0, 3, way));
      }
      for (int n = 1; n <= 6; n++) {
        x.put(1, n, n == 1 ? 100 : -100);
      }
      due("greatest SIZES, size 3", 100L * -200 * -200, () -> x.determinant(1, 3, way));
    }
    CHECKS.thrown("determinant(4, 0, 2)", Checks.INDEX, x, () -> x.determinant(4, 0, 2));
    CHECKS.thrown("determinant(-1, 1, 0)", Checks.INDEX, x, () -> x.determinant(-1, 1, 0));
    CHECKS.thrown("determinant(0, 0, 0)", Checks.ARGUMENT, x, () -> x.determinant(0, 0, 0));
    CHECKS.thrown("determinant(0, 7, 0)", Checks.ARGUMENT, x, () -> x.determinant(0, 7, 0));
    CHECKS.thrown("determinant(0, 1, 2)", Checks.ARGUMENT, x, () -> x.determinant(0, 1, 2));
    CHECKS.thrown("determinant(0, 1, -1)", Checks.ARGUMENT, x, () -> x.determinant(0, 1, -1));
  }

  private static void askingIsNoAct() {
    Divisorwork x = new Divisorwork();
    x.know(0, 2);
    long before = x.digest();
    x.value(0, 1);
    x.half(0, 1, true);
    x.differ(0, 1);
    x.is(0, 0);
    x.is(0, 3);
    x.is(1, 3);
    x.total(0, 9);
    x.totalOfProduct(0, 1, 9, 2);
    x.determinant(0, 6, 0);
    x.determinant(0, 6, 1);
    due("asking changes nothing", before, x::digest);
  }
}
