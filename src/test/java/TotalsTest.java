/** Promises 15 to 17 at their ends: TOTALS that go BEYOND on the way, and the greatest SIZES that are taken. */
public final class TotalsTest {
  private static final Checks CHECKS = new Checks();
  private static final String STATE = Checks.STATE;
  private static final long LEAST = Long.MIN_VALUE;
  private static final long MOST = Long.MAX_VALUE;
  private static final long MILLION = 1000000;

  public static void main(String[] args) {
    totalOfNone();
    totalJustLet();
    totalBeyondOnTheWay();
    totalOfProductSizes();
    totalOfProductBehindN();
    totalOfProductSquares();
    totalOfProductGreatest();
    determinantSizes();
    determinantBehindSize();
    determinantGreatest();
    CHECKS.end();
  }

  private static void due(String what, Object want, Checks.Call call) {
    CHECKS.due(what, want, call);
  }

  private static Divisorwork with(long... pairs) {
    Divisorwork x = new Divisorwork();
    for (int i = 0; i < pairs.length; i += 2) {
      Checks.putLong(x, 0, (int) pairs[i], pairs[i + 1]);
    }
    return x;
  }

  private static void totalOfNone() {
    for (long first : new long[] {LEAST, MOST, 1, -1}) {
      Divisorwork x = with(1, first, 2, first);
      due("total up to 0 with " + first + " at 1", "0", () -> x.total(0, 0));
      due("total up to 1 with " + first + " at 1", Long.toString(first), () -> x.total(0, 1));
    }
  }

  private static void totalJustLet() {
    Divisorwork x = with(1, MOST - 1, 120, 1);
    due("total: 2^63 - 2", MOST - 1, () -> x.total(0, 119));
    due("total: 2^63 - 1", MOST, () -> x.total(0, 120));
    x.put(0, 120, 2);
    due("total: 2^63 - 2, ahead of 2 more", MOST - 1, () -> x.total(0, 119));
    CHECKS.thrown("total: 2^63", STATE, x, () -> x.total(0, 120));
    Divisorwork y = with(1, LEAST + 1, 120, -1);
    due("total: -2^63 + 1", LEAST + 1, () -> y.total(0, 119));
    due("total: -2^63", LEAST, () -> y.total(0, 120));
    y.put(0, 120, -2);
    due("total: -2^63 + 1, ahead of 2 less", LEAST + 1, () -> y.total(0, 119));
    CHECKS.thrown("total: -2^63 - 1", STATE, y, () -> y.total(0, 120));
    Divisorwork z = with(59, MOST, 60, LEAST);
    due("total: the ends together", "-1", () -> z.total(0, 120));
    Divisorwork w = with(59, LEAST, 60, LEAST);
    CHECKS.thrown("total: -2^63 twice, which wraps around onto 0", STATE, w, () -> w.total(0, 60));
    due("total: -2^63 once", LEAST, () -> w.total(0, 59));
  }

  /** The end is LET again, but a sum on the way is not. */
  private static void totalBeyondOnTheWay() {
    Divisorwork x = with(1, MOST, 2, 1, 3, -1);
    due("total: 2^63 - 1", MOST, () -> x.total(0, 1));
    CHECKS.thrown("total: 2^63 on the way", STATE, x, () -> x.total(0, 2));
    CHECKS.thrown("total: 2^63 - 1 behind it", STATE, x, () -> x.total(0, 3));
    CHECKS.thrown("total: all behind it", STATE, x, () -> x.total(0, 120));
    x.put(0, 2, -1);
    x.put(0, 3, 1);
    due("total: 1 less first", MOST, () -> x.total(0, 3));
    due("total: 1 less first, all", MOST, () -> x.total(0, 120));
    Divisorwork y = with(1, LEAST, 2, -1, 3, 1);
    CHECKS.thrown("total: -2^63 - 1 on the way", STATE, y, () -> y.total(0, 2));
    CHECKS.thrown("total: -2^63 behind it", STATE, y, () -> y.total(0, 3));
    y.put(0, 2, 1);
    y.put(0, 3, -1);
    due("total: 1 more first", LEAST, () -> y.total(0, 3));
    // It is BEYOND at 119 alone.
    Divisorwork z = with(118, MOST, 119, MOST, 120, LEAST);
    due("total: up to 118", MOST, () -> z.total(0, 118));
    CHECKS.thrown("total: up to 119", STATE, z, () -> z.total(0, 119));
    CHECKS.thrown("total: up to 120, 2^63 - 2 in the end", STATE, z, () -> z.total(0, 120));
    due("total of another one behind it", "0", () -> z.total(1, 120));
  }

  private static void totalOfProductSizes() {
    for (int i = 0; i <= 2; i++) {
      int how = i;
      for (int place : new int[] {1, 120}) {
        for (int function = 0; function <= 1; function++) {
          Divisorwork x = new Divisorwork();
          String at = "how " + how + ", function " + function + " at " + place + ": ";
          x.put(1 - function, 1, 1);
          for (long just : new long[] {MILLION, -MILLION}) {
            Checks.putLong(x, function, place, just);
            due(at + just, Long.toString(just), () -> x.totalOfProduct(0, 1, 120, how));
          }
          for (long great : new long[] {MILLION + 1, -MILLION - 1, LEAST, LEAST + 1, MOST, 1L << 32}) {
            Checks.putLong(x, function, place, great);
            CHECKS.thrown(at + great, STATE, x, () -> x.totalOfProduct(0, 1, 120, how));
            CHECKS.thrown(at + great + ", turned about", STATE, x, () -> x.totalOfProduct(1, 0, 120, how));
          }
        }
      }
    }
  }

  /** What is behind n has no part in it, however great. */
  private static void totalOfProductBehindN() {
    Divisorwork x = new Divisorwork();
    x.know(0, 1);
    x.know(1, 1);
    Checks.putLong(x, 0, 120, LEAST);
    Checks.putLong(x, 1, 120, MOST);
    Checks.putLong(x, 0, 2, MILLION + 1);
    for (int i = 0; i <= 2; i++) {
      int how = i;
      due("up to 1, how " + how, "1", () -> x.totalOfProduct(0, 1, 1, how));
      CHECKS.thrown("up to 2, how " + how, STATE, x, () -> x.totalOfProduct(0, 1, 2, how));
    }
    x.put(0, 2, 1);
    for (int i = 0; i <= 2; i++) {
      int how = i;
      // The PRODUCT of 1 and 1 is TAU, whose TOTAL up to 120 is 602, with 16 at 120.
      due("up to 119, how " + how, "586", () -> x.totalOfProduct(0, 1, 119, how));
      CHECKS.thrown("up to 120, how " + how, STATE, x, () -> x.totalOfProduct(0, 1, 120, how));
    }
  }

  /** How 2 has the greatest r with r * r no more than n: just below, at and just above each square. */
  private static void totalOfProductSquares() {
    Divisorwork x = new Divisorwork();
    x.know(0, 2);
    x.know(1, 5);
    x.multiply(0, 1, 2);
    for (int r = 1; r <= 10; r++) {
      for (int n = r * r - 1; n <= r * r + 1; n++) {
        int last = n;
        if (n >= 1) {
          String want = x.total(2, last);
          for (int i = 0; i <= 2; i++) {
            int how = i;
            due("up to " + n + ", how " + how, want, () -> x.totalOfProduct(0, 1, last, how));
            due("up to " + n + ", how " + how + ", turned about", want, () -> x.totalOfProduct(1, 0, last, how));
          }
        }
      }
    }
  }

  /** The greatest SIZES at all places: 602 products of a million by a million, the TOTAL of TAU up to 120 being that. */
  private static void totalOfProductGreatest() {
    Divisorwork x = new Divisorwork();
    x.know(0, 1);
    x.put(3, 1, (int) MILLION);
    x.multiply(0, 3, 0);
    x.make(0, 4, 1);
    long products = 602 * MILLION * MILLION;
    for (int i = 0; i <= 2; i++) {
      int how = i;
      due("a million by a million, how " + how, products, () -> x.totalOfProduct(0, 0, 120, how));
      due("a million by a million below 0, how " + how, -products, () -> x.totalOfProduct(0, 1, 120, how));
      due("a million below 0 by a million, how " + how, -products, () -> x.totalOfProduct(1, 0, 120, how));
      due("both below 0, how " + how, products, () -> x.totalOfProduct(1, 1, 120, how));
    }
  }

  private static void determinantSizes() {
    // n at n but for 100, or -100, at size: the product of PHI below size, by PHI there less size and with that.
    int[] above = {100, 99, 99, 196, 396, 1536};
    int[] below = {-100, -101, -101, -204, -404, -1664};
    for (int i = 0; i <= 1; i++) {
      int how = i;
      for (int j = 1; j <= 6; j++) {
        int size = j;
        Divisorwork x = new Divisorwork();
        x.know(0, 2);
        x.put(0, size, 100);
        due("how " + how + ": 100 at " + size, above[size - 1], () -> x.determinant(0, size, how));
        x.put(0, size, -100);
        due("how " + how + ": -100 at " + size, below[size - 1], () -> x.determinant(0, size, how));
        for (long great : new long[] {101, -101, LEAST, LEAST + 1, MOST, 1L << 32}) {
          Checks.putLong(x, 0, size, great);
          CHECKS.thrown("how " + how + ": " + great + " at " + size, STATE, x, () -> x.determinant(0, size, how));
          CHECKS.thrown("how " + how + ": " + great + " at " + size + ", size 6", STATE, x,
              () -> x.determinant(0, 6, how));
        }
      }
    }
  }

  /** What is behind size has no part in it, however great. */
  private static void determinantBehindSize() {
    for (int i = 0; i <= 1; i++) {
      int how = i;
      Divisorwork x = new Divisorwork();
      x.know(0, 2);
      for (int size = 6; size >= 1; size--) {
        int rows = size;
        Checks.putLong(x, 0, size + 1, size % 2 == 0 ? LEAST : 101);
        // Of n at n it is the product of PHI.
        due("how " + how + ", size " + size, new int[] {1, 1, 2, 4, 16, 32}[size - 1],
            () -> x.determinant(0, rows, how));
      }
    }
  }

  private static void determinantGreatest() {
    int[] values = {100, -100, -100, 100, -100, 100};
    long[] wants = {100, -20000, 4000000, 800000000, -160000000000L, -64000000000000L};
    Divisorwork x = new Divisorwork();
    for (int n = 1; n <= 6; n++) {
      x.put(3, n, values[n - 1]);
    }
    for (int i = 1; i <= 6; i++) {
      int size = i;
      due("greatest SIZES, how 0, size " + size, wants[size - 1], () -> x.determinant(3, size, 0));
      due("greatest SIZES, how 1, size " + size, wants[size - 1], () -> x.determinant(3, size, 1));
    }
  }
}
