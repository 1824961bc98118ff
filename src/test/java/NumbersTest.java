/** Promises 18 to 27: what is asked of numbers, of every number and in every way, beside reckoning of the test's own. */
public final class NumbersTest {
  private interface Asked {
    int answer(Divisorwork x, int n, int how);
  }

  private static final Checks CHECKS = new Checks();
  private static final int MIN = Integer.MIN_VALUE;
  private static final int MAX = Integer.MAX_VALUE;

  private static Divisorwork lent = new Divisorwork();
  private static int lentOnes = 0;

  public static void main(String[] args) {
    // By the sieve: the sums over all multiples, so that no divisor is looked for as the class does it.
    int[] tau = new int[1000];
    int[] sigma = new int[1000];
    int[] phi = new int[1000];
    int[] sign = new int[1000];
    int[] square = new int[1000];
    int[] squareless = new int[1000];
    sign[1] = 1;
    for (int d = 1; d <= 999; d++) {
      phi[d] += d;
      for (int n = d; n <= 999; n += d) {
        tau[n]++;
        sigma[n] += d;
        if (n > d) {
          phi[n] -= phi[d];
          sign[n] -= sign[d];
        }
      }
    }
    for (int d = 1; d * d <= 999; d++) {
      for (int n = d * d; n <= 999; n += d * d) {
        square[n] = d * d;
      }
    }
    int[] apart = new int[1000];
    for (int n = 1; n <= 999; n++) {
      squareless[n] = squareless[n - 1] + (square[n] == 1 ? 1 : 0);
      apart[n] = apart[n - 1] + 2 * phi[n] - (n == 1 ? 1 : 0);
    }
    everyNumber("tau", 999, 2, tau, Divisorwork::tau);
    everyNumber("sigma", 999, 1, sigma, Divisorwork::sigma);
    everyNumber("phi", 999, 2, phi, Divisorwork::phi);
    everyNumber("sign", 999, 1, sign, Divisorwork::sign);
    everyNumber("square", 999, 1, square, Divisorwork::square);
    everyNumber("squareless", 999, 1, squareless, Divisorwork::squareless);
    everyNumber("apart", 120, 2, apart, Divisorwork::apart);
    byHand();
    shared();
    divisor(tau);
    powers();
    CHECKS.end();
  }

  /** An object for one call: it is used for 500 calls, as no more than 512 are promised. */
  private static Divisorwork x() {
    lentOnes++;
    if (lentOnes % 500 == 0) {
      lent = new Divisorwork();
    }
    return lent;
  }

  private static void everyNumber(String name, int last, int lastHow, int[] wants, Asked asked) {
    for (int how = 0; how <= lastHow; how++) {
      for (int n = 1; n <= last; n++) {
        int number = n;
        int way = how;
        CHECKS.due(name + "(" + n + ", " + how + ")", wants[n], () -> asked.answer(x(), number, way));
      }
    }
    Divisorwork x = new Divisorwork();
    for (int n : new int[] {0, -1, last + 1, MIN, MAX}) {
      CHECKS.thrown(name + "(" + n + ", 0)", Checks.ARGUMENT, x, () -> asked.answer(x, n, 0));
    }
    for (int how : new int[] {-1, lastHow + 1, MIN, MAX}) {
      CHECKS.thrown(name + "(1, " + how + ")", Checks.ARGUMENT, x, () -> asked.answer(x, 1, how));
    }
  }

  private static void due(String what, Object want, Checks.Call call) {
    CHECKS.due(what, want, call);
  }

  private static void byHand() {
    for (int how = 0; how <= 1; how++) {
      int way = how;
      due("tau of 840", 32, () -> x().tau(840, way));
      due("sigma of 28", 56, () -> x().sigma(28, way));
      due("phi of 36", 12, () -> x().phi(36, way));
      due("sign of 770", 1, () -> x().sign(770, way));
      due("sign of 999", 0, () -> x().sign(999, way));
      due("square of 968", 484, () -> x().square(968, way));
      due("squareless up to 10", 7, () -> x().squareless(10, way));
      due("apart up to 4", 11, () -> x().apart(4, way));
    }
  }

  private static int common(int a, int b) {
    int d = Math.min(a, b);
    while (a % d != 0 || b % d != 0) {
      d--;
    }
    return d;
  }

  private static void shared() {
    for (int i = 1; i <= 999; i += 1 + i / 40) {
      for (int j = 1; j <= 999; j += 1 + j / 40) {
        int a = i;
        int b = j;
        int common = common(a, b);
        due("shared(" + a + ", " + b + ", false)", common, () -> x().shared(a, b, false));
        due("shared(" + a + ", " + b + ", true)", a * b / common, () -> x().shared(a, b, true));
      }
    }
    due("shared(999, 999, false)", 999, () -> x().shared(999, 999, false));
    due("shared(999, 999, true)", 999, () -> x().shared(999, 999, true));
    due("shared(997, 999, true)", 996003, () -> x().shared(997, 999, true));
    Divisorwork x = new Divisorwork();
    for (int wrong : new int[] {0, -1, 1000, MIN, MAX}) {
      for (boolean isLeast : new boolean[] {false, true}) {
        CHECKS.thrown("shared(" + wrong + ", 1)", Checks.ARGUMENT, x, () -> x.shared(wrong, 1, isLeast));
        CHECKS.thrown("shared(1, " + wrong + ")", Checks.ARGUMENT, x, () -> x.shared(1, wrong, isLeast));
      }
    }
  }

  private static void divisor(int[] tau) {
    for (int i = 1; i <= 999; i++) {
      int n = i;
      int k = 0;
      for (int d = 1; d <= n; d++) {
        if (n / d * d == n) {
          int which = k;
          due("divisor(" + n + ", " + k + ")", d, () -> x().divisor(n, which));
          k++;
        }
      }
      due("divisor(" + n + ", TAU)", -1, () -> x().divisor(n, tau[n]));
    }
    due("divisor(999, MAX)", -1, () -> x().divisor(999, MAX));
    Divisorwork x = new Divisorwork();
    for (int wrong : new int[] {0, -1, 1000, MIN, MAX}) {
      CHECKS.thrown("divisor(" + wrong + ", 0)", Checks.ARGUMENT, x, () -> x.divisor(wrong, 0));
    }
    CHECKS.thrown("divisor(1, -1)", Checks.ARGUMENT, x, () -> x.divisor(1, -1));
    CHECKS.thrown("divisor(1, MIN)", Checks.ARGUMENT, x, () -> x.divisor(1, MIN));
  }

  private static void powers() {
    due("powers(1)", "", () -> x().powers(1));
    due("powers(2)", "2^1", () -> x().powers(2));
    due("powers(840)", "2^3 3^1 5^1 7^1", () -> x().powers(840));
    due("powers(961)", "31^2", () -> x().powers(961));
    due("powers(998)", "2^1 499^1", () -> x().powers(998));
    for (int i = 2; i <= 999; i++) {
      int n = i;
      StringBuilder want = new StringBuilder();
      int rest = n;
      for (int p = 2; p <= n; p++) {
        int k = 0;
        for (; rest % p == 0; rest /= p) {
          k++;
        }
        want.append(k == 0 ? "" : (want.length() == 0 ? "" : " ") + p + "^" + k);
      }
      due("powers(" + n + ")", want, () -> x().powers(n));
    }
    Divisorwork x = new Divisorwork();
    for (int wrong : new int[] {0, -1, 1000, MIN, MAX}) {
      CHECKS.thrown("powers(" + wrong + ")", Checks.ARGUMENT, x, () -> x.powers(wrong));
    }
  }
}
