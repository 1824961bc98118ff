/** Long runs of calls, the same ones every time, with the answers of the Model beside them (promises 1 to 17 and 28 to 31). */
public final class ModelTest {
  private static final Checks CHECKS = new Checks();
  private static final int RUNS = 300;
  /** Some are two calls; no more than 512 calls of an object are promised. */
  private static final int CALLS = 450;
  private static final int[] EDGES = {0, 1, -1, 2, -2, 3, 5, -7, 100, -100, 101, 1000000, -1000000, 1000001,
    Integer.MIN_VALUE, Integer.MAX_VALUE, 1 << 30, 65536, 46341};

  private static long state = 20261118;

  public static void main(String[] args) {
    for (int run = 0; run < RUNS; run++) {
      Divisorwork x = new Divisorwork();
      Model model = new Model();
      for (int call = 0; call < CALLS; call++) {
        act(x, model);
      }
      CHECKS.due("isSound, run " + run, true, x::isSound);
      CHECKS.due("digest, run " + run, model.digest(), x::digest);
    }
    CHECKS.end();
  }

  private static int upTo(int most) {
    state = state * 6364136223846793005L + 1442695040888963407L;
    return (int) ((state >>> 33) % (most + 1));
  }

  /** Mostly within least to most, now and then just outside. */
  private static int about(int least, int most) {
    int one = upTo(99);
    if (one == 0) {
      return least - 1;
    }
    return one == 1 ? most + 1 : least + upTo(most - least);
  }

  /** Small ones often, as those have many DIVISORS' sums behind them. */
  private static int place() {
    int one = upTo(9);
    return one < 4 ? about(1, 4) : one < 6 ? about(1, 12) : about(1, 120);
  }

  private static int edge() {
    return EDGES[upTo(EDGES.length - 1)];
  }

  private static void same(String call, Checks.Call want, Checks.Call got) {
    CHECKS.due(call, Checks.told(want), got);
  }

  private static void act(Divisorwork x, Model m) {
    int a = about(0, 3);
    int b = about(0, 3);
    int c = about(0, 3);
    int n = place();
    int i = edge();
    int j = edge();
    switch (upTo(23)) {
      case 0 -> { int w = about(0, 10); same("know", () -> m.know(a, w), () -> x.know(a, w)); }
      case 1, 2 -> same("put", () -> m.put(a, n, i), () -> x.put(a, n, i));
      case 3 -> same("putWide", () -> m.putWide(a, n, i, j), () -> x.putWide(a, n, i, j));
      case 4, 5 -> {
        int seed = about(0, 65535);
        int wide = upTo(2) == 0 ? about(0, 500) : about(0, 5);
        same("sow", () -> m.sow(a, seed, wide), () -> x.sow(a, seed, wide));
      }
      case 6 -> same("copy", () -> m.copy(a, b), () -> x.copy(a, b));
      case 7 -> same("swap", () -> m.swap(a, b), () -> x.swap(a, b));
      case 8, 9 -> { int w = about(0, 2); same("meet", () -> m.meet(a, b, w, c), () -> x.meet(a, b, w, c)); }
      case 10, 11 -> same("multiply", () -> m.multiply(a, b, c), () -> x.multiply(a, b, c));
      case 12, 13 -> { int w = about(0, 5); same("make", () -> m.make(a, w, b), () -> x.make(a, w, b)); }
      case 14 -> same("value", () -> m.value(a, n), () -> x.value(a, n));
      case 15 -> { boolean u = upTo(1) == 0; same("half", () -> m.half(a, n, u), () -> x.half(a, n, u)); }
      case 16 -> same("differ", () -> m.differ(a, b), () -> x.differ(a, b));
      case 17, 18 -> { int w = about(0, 3); same("is", () -> m.is(a, w), () -> x.is(a, w)); }
      case 19 -> { int t = about(0, 120); same("total", () -> m.total(a, t), () -> x.total(a, t)); }
      case 20 -> {
        int w = about(0, 2);
        same("totalOfProduct", () -> m.totalOfProduct(a, b, n, w), () -> x.totalOfProduct(a, b, n, w));
      }
      case 21 -> {
        int s = about(1, 6);
        int w = about(0, 1);
        same("determinant", () -> m.determinant(a, s, w), () -> x.determinant(a, s, w));
      }
      case 22 -> { int w = about(0, 2); same("house", () -> m.house(w), () -> x.house(w)); }
      default -> {
        same("knock", m::knock, x::knock);
        same("putWide at 1", () -> m.putWide(a, 1, 0, 1), () -> x.putWide(a, 1, 0, 1));
      }
    }
  }
}
