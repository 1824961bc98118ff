/**
 * What the document says of numbers and functions in several ways comes to the same: the KNOWN ones and what is
 * asked of numbers, the POWERS and the number, and the acts among each other on known and on sown functions.
 */
public final class SeveralWaysTest {
  private static final Checks CHECKS = new Checks();
  private static final int UNIT = 0;
  private static final int ONE = 1;
  private static final int PLACE = 2;
  private static final int SIGN = 3;
  private static final int PHI = 4;
  private static final int TAU = 5;
  private static final int SIGMA = 6;
  private static final int SQUARELESS = 7;
  private static final int TURNING = 8;
  private static final int SQUARES = 9;
  private static final int SQUARED = 10;
  private static final int SUMMED = 1;
  private static final int SIGNED = 2;

  public static void main(String[] args) {
    knownByPlace();
    knownByNumbers();
    knownByTotals();
    powersOfTheNumber();
    divisorsOfTheNumber();
    commonAndLeast();
    summedAndSignedKnown();
    inversesOfKnown();
    for (int seed = 0; seed < 20; seed++) {
      products(3271 * seed);
      productsWithKnown(3271 * seed);
      inverses(3271 * seed);
      met(3271 * seed);
      byPrimes(3271 * seed);
      totals(3271 * seed);
    }
    CHECKS.end();
  }

  private static void due(String what, Object want, Checks.Call call) {
    CHECKS.due(what, want, call);
  }

  /** For what was asked already. */
  private static void told(String what, Object want, Object got) {
    CHECKS.due(what, want, () -> got);
  }

  /** The functions from 0 on become these KNOWN ones. */
  private static Divisorwork known(int... whiches) {
    Divisorwork x = new Divisorwork();
    for (int f = 0; f < whiches.length; f++) {
      x.know(f, whiches[f]);
    }
    return x;
  }

  private static Divisorwork sown(int seed, int functions) {
    Divisorwork x = new Divisorwork();
    for (int f = 0; f < functions; f++) {
      x.sow(f, seed + f, 9);
    }
    return x;
  }

  private static void same(String what, Divisorwork x, int one, int other) {
    due(what, -1, () -> x.differ(one, other));
  }

  private static void knownByPlace() {
    Divisorwork x = known(UNIT, ONE, PLACE, SQUARED);
    for (int i = 1; i <= 120; i++) {
      int n = i;
      due("UNIT at " + n, n == 1 ? 1 : 0, () -> x.value(0, n));
      due("1 at " + n, 1, () -> x.value(1, n));
      due("n at " + n, n, () -> x.value(2, n));
      due("n * n at " + n, n * n, () -> x.value(3, n));
    }
  }

  private static void knownByNumbers() {
    for (int i = 1; i <= 120; i++) {
      int n = i;
      Divisorwork x = known(SIGN, PHI, TAU, SIGMA);
      Divisorwork y = known(SQUARELESS, TURNING, SQUARES);
      for (int j = 0; j <= 1; j++) {
        int how = j;
        due("SIGN at " + n, x.sign(n, how), () -> x.value(0, n));
        due("SIGMA at " + n, x.sigma(n, how), () -> x.value(3, n));
        due("SQUARELESS at " + n, y.square(n, how) == 1 ? 1 : 0, () -> y.value(0, n));
        due("squares at " + n, y.square(n, how) == n ? 1 : 0, () -> y.value(2, n));
      }
      for (int j = 0; j <= 2; j++) {
        int how = j;
        due("PHI at " + n, x.phi(n, how), () -> x.value(1, n));
        due("TAU at " + n, x.tau(n, how), () -> x.value(2, n));
      }
      due("1 or -1 by the k of all POWERS at " + n, timesIn(y.powers(n)) % 2 == 0 ? 1 : -1, () -> y.value(1, n));
    }
  }

  /** All k together of the POWERS, told as "p^k p^k". */
  private static int timesIn(String powers) {
    int times = 0;
    for (String power : powers.split(" ")) {
      times += power.isEmpty() ? 0 : Integer.parseInt(power.substring(power.indexOf('^') + 1));
    }
    return times;
  }

  private static void knownByTotals() {
    for (int i = 1; i <= 120; i++) {
      int n = i;
      Divisorwork x = known(SQUARELESS, PHI, ONE, TAU);
      String pairs = Long.toString(2 * Long.parseLong(x.total(1, n)) - 1);
      due("1 up to " + n, n, () -> x.total(2, n));
      for (int j = 0; j <= 1; j++) {
        int how = j;
        due("SQUARELESS ones up to " + n, x.total(0, n), () -> x.squareless(n, how));
      }
      for (int j = 0; j <= 2; j++) {
        int how = j;
        due("apart up to " + n, pairs, () -> x.apart(n, how));
        due("TAU up to " + n, x.total(3, n), () -> x.totalOfProduct(2, 2, n, how));
      }
    }
  }

  private static void powersOfTheNumber() {
    for (int i = 2; i <= 999; i++) {
      int n = i;
      Divisorwork x = new Divisorwork();
      int product = 1;
      int before = 1;
      for (String power : x.powers(n).split(" ")) {
        int p = Integer.parseInt(power.substring(0, power.indexOf('^')));
        int k = Integer.parseInt(power.substring(power.indexOf('^') + 1));
        due(power + " in " + n + ": a PRIME has just two DIVISORS", 2, () -> x.tau(p, 0));
        told(power + " in " + n + ": rising, k 1 or more", true, p > before && k >= 1);
        before = p;
        for (int time = 1; time <= k; time++) {
          product *= p;
        }
      }
      told("the product of the POWERS of " + n, n, product);
    }
  }

  /** The DIVISORS told one by one come to TAU and SIGMA, rise, and the one from the other end is n by this one. */
  private static void divisorsOfTheNumber() {
    for (int i = 1; i <= 999; i++) {
      int n = i;
      Divisorwork x = new Divisorwork();
      int tau = x.tau(n, n % 3);
      int sum = 0;
      int before = 0;
      for (int k = 0; k < tau; k++) {
        int d = x.divisor(n, k);
        told("divisor(" + n + ", " + k + ") rises", true, d > before);
        told("divisor(" + n + ", " + k + ") by that from the other end", n, d * x.divisor(n, tau - 1 - k));
        sum += d;
        before = d;
      }
      told("the DIVISORS of " + n + " together", x.sigma(n, n % 2), sum);
      due("divisor(" + n + ", TAU)", -1, () -> x.divisor(n, tau));
    }
  }

  /** All pairs of 1 to 999. */
  private static void commonAndLeast() {
    for (int a = 1; a <= 999; a++) {
      Divisorwork x = new Divisorwork();
      for (int b = 1; b <= 999; b++) {
        // Three calls for each, and 512 are promised.
        x = b % 150 == 0 ? new Divisorwork() : x;
        commonAndLeastOf(x, a, b);
      }
    }
  }

  private static void commonAndLeastOf(Divisorwork x, int a, int b) {
    int common = x.shared(a, b, false);
    String of = a + " and " + b;
    told("COMMON of " + of + " is a DIVISOR of both", "0 0", a % common + " " + b % common);
    told("COMMON of " + of + " is the greatest one: no common part is left", 1, common(a / common, b / common));
    told("LEAST by COMMON of " + of, a * b, x.shared(a, b, true) * common);
    told("COMMON of " + of + ", turned about", common, x.shared(b, a, false));
  }

  private static int common(int a, int b) {
    return b == 0 ? a : common(b, a % b);
  }

  private static void summedAndSignedKnown() {
    int[][] pairs = {{UNIT, ONE}, {ONE, TAU}, {PLACE, SIGMA}, {SIGN, UNIT}, {PHI, PLACE}, {TURNING, SQUARES}};
    for (int[] pair : pairs) {
      Divisorwork x = known(pair[0], pair[1], UNIT, UNIT);
      x.make(0, SUMMED, 2);
      same("KNOWN " + pair[0] + " SUMMED", x, 2, 1);
      x.make(1, SIGNED, 3);
      same("KNOWN " + pair[1] + " SIGNED", x, 3, 0);
    }
  }

  private static void inversesOfKnown() {
    int[][] pairs = {{UNIT, UNIT}, {ONE, SIGN}, {SQUARELESS, TURNING}};
    for (int[] pair : pairs) {
      Divisorwork x = known(pair[0], pair[1]);
      x.make(0, 0, 2);
      same("INVERSE of KNOWN " + pair[0], x, 2, 1);
      x.make(1, 0, 2);
      same("INVERSE of KNOWN " + pair[1], x, 2, 0);
    }
    // Of n it is the SIGN of n by n, of n * n the SIGN by n * n.
    for (int which : new int[] {PLACE, SQUARED}) {
      Divisorwork x = known(which, SIGN);
      x.meet(0, 1, 2, 1);
      x.make(0, 0, 2);
      same("INVERSE of KNOWN " + which, x, 2, 1);
    }
    for (int which = 0; which <= 10; which++) {
      Divisorwork x = known(which, UNIT);
      x.make(0, 0, 2);
      x.multiply(2, 0, 3);
      same("KNOWN " + which + " by its INVERSE", x, 3, 1);
    }
  }

  private static void products(int seed) {
    Divisorwork x = sown(seed, 3);
    String of = " of sown ones, seed " + seed;
    x.multiply(1, 0, 3);
    x.multiply(3, 2, 3);
    // (G by F) by H into 3; F by (G by H) into 1.
    x.multiply(1, 2, 1);
    x.multiply(0, 1, 1);
    same("PRODUCT either way and in either sequence" + of, x, 1, 3);
    Divisorwork y = sown(seed, 3);
    y.meet(1, 2, 0, 3);
    y.multiply(0, 3, 3);
    y.multiply(0, 1, 1);
    y.multiply(0, 2, 2);
    y.meet(1, 2, 0, 2);
    same("PRODUCT with a sum" + of, y, 2, 3);
  }

  private static void productsWithKnown(int seed) {
    String of = " of a sown one, seed " + seed;
    Divisorwork x = sown(seed, 1);
    x.know(1, UNIT);
    x.multiply(0, 1, 1);
    same("PRODUCT with UNIT" + of, x, 0, 1);
    x.know(1, ONE);
    x.multiply(0, 1, 1);
    x.make(0, SUMMED, 2);
    same("SUMMED is the PRODUCT with 1" + of, x, 1, 2);
    x.make(2, SIGNED, 2);
    same("SIGNED undoes SUMMED" + of, x, 0, 2);
    x.know(1, SIGN);
    x.multiply(1, 0, 1);
    x.make(0, SIGNED, 2);
    same("SIGNED is the PRODUCT with the SIGN" + of, x, 1, 2);
    x.make(2, SUMMED, 2);
    same("SUMMED undoes SIGNED" + of, x, 0, 2);
    due("isSound" + of, true, x::isSound);
  }

  private static void inverses(int seed) {
    for (int first : new int[] {1, -1}) {
      String of = " of a sown one with " + first + " at 1, seed " + seed;
      Divisorwork x = sown(seed, 1);
      x.put(0, 1, first);
      x.know(3, UNIT);
      due("is(0, 3)" + of, true, () -> x.is(0, 3));
      x.make(0, 0, 1);
      x.multiply(0, 1, 2);
      same("PRODUCT with the INVERSE" + of, x, 2, 3);
      x.make(1, 0, 1);
      same("INVERSE of the INVERSE" + of, x, 0, 1);
    }
  }

  private static void met(int seed) {
    String of = " of sown ones, seed " + seed;
    Divisorwork x = sown(seed, 2);
    x.meet(0, 1, 0, 2);
    x.meet(2, 1, 1, 2);
    same("the sum less the other one" + of, x, 2, 0);
    x.meet(3, 0, 1, 2);
    x.make(0, 4, 3);
    same("0 less it is it turned" + of, x, 2, 3);
    x.make(3, 4, 3);
    same("turned twice" + of, x, 0, 3);
    x.know(2, PLACE);
    x.meet(0, 2, 2, 2);
    x.make(0, 5, 3);
    same("each by n" + of, x, 2, 3);
    x.copy(0, 2);
    x.swap(0, 1);
    same("what was swapped away" + of, x, 1, 2);
  }

  private static void byPrimes(int seed) {
    String of = " of sown ones, seed " + seed;
    Divisorwork x = sown(seed, 2);
    x.make(0, 3, 0);
    x.make(1, 3, 1);
    for (int f = 0; f <= 1; f++) {
      int function = f;
      due("is(" + f + ", 0) of one BY PRIMES" + of, true, () -> x.is(function, 0));
      due("BY PRIMES twice" + of, 0, () -> x.make(function, 3, function));
      due("is(" + f + ", 3) of one BY PRIMES" + of, true, () -> x.is(function, 3));
    }
    due("isSound of one BY PRIMES" + of, true, x::isSound);
    x.multiply(0, 1, 2);
    due("the PRODUCT of two BY PRIMES is it, too" + of, true, () -> x.is(2, 0));
    x.meet(0, 1, 2, 2);
    due("two BY PRIMES value by value are it, too" + of, true, () -> x.is(2, 0));
    x.make(0, 0, 2);
    due("the INVERSE of one BY PRIMES is it, too" + of, true, () -> x.is(2, 0));
  }

  private static void totals(int seed) {
    String of = " of sown ones, seed " + seed;
    Divisorwork x = sown(seed, 2);
    x.multiply(0, 1, 2);
    x.know(3, ONE);
    for (int i = 1; i <= 120; i += 7) {
      int n = i;
      String want = x.total(2, n);
      for (int j = 0; j <= 2; j++) {
        int how = j;
        due("the PRODUCT up to " + n + of, want, () -> x.totalOfProduct(0, 1, n, how));
      }
    }
    x.make(0, SUMMED, 2);
    due("SUMMED, its TOTAL" + of, x.total(2, 120), () -> x.totalOfProduct(3, 0, 120, 2));
    for (int i = 1; i <= 6; i++) {
      int size = i;
      x.make(1, SIGNED, 2);
      long product = 1;
      for (int n = 1; n <= size; n++) {
        product *= Long.parseLong(x.value(2, n));
      }
      long want = product;
      due("determinant of " + size + of, want, () -> x.determinant(1, size, 0));
      due("determinant of " + size + " by SIGNED" + of, want, () -> x.determinant(1, size, 1));
    }
  }
}
