/**
 * Promises 2 to 17 at every one of the places 1 to 120, each by itself: what is put there is told from there,
 * counted, carried on by each act just to where the document says, and looked at for BEYOND.
 */
public final class EveryPlaceTest {
  private static final Checks CHECKS = new Checks();
  private static final long LEAST = Long.MIN_VALUE;
  private static final long MOST = Long.MAX_VALUE;

  private interface Wanted {
    long at(int n);
  }

  public static void main(String[] args) {
    for (int place = 1; place <= 120; place++) {
      putAndAsked(place);
      countedBySow(place);
      countedByKnow(place);
      countedByCopyAndSwap(place);
      totals(place);
      totalBeyond(place);
      sizes(place);
      met(place);
      inverse(place);
      summed(place);
      signed(place);
      byPrimes(place);
      turnedAndByPlace(place);
      isByPrimes(place);
      for (int other = 1; other <= 120; other++) {
        productOf(place, other);
      }
    }
    determinants();
    CHECKS.end();
  }

  private static void due(String what, Object want, Checks.Call call) {
    CHECKS.due(what, want, call);
  }

  private static Divisorwork with(int place, long value) {
    Divisorwork x = new Divisorwork();
    Checks.putLong(x, 0, place, value);
    return x;
  }

  private static void everywhere(String what, Divisorwork x, int function, Wanted wanted) {
    long[] wants = new long[120];
    for (int n = 1; n <= 120; n++) {
      wants[n - 1] = wanted.at(n);
    }
    CHECKS.values(what, x, function, wants);
  }

  private static int common(int a, int b) {
    int d = Math.min(a, b);
    while (a % d != 0 || b % d != 0) {
      d--;
    }
    return d;
  }

  /** Whether n is p^k for some PRIME p, with k 1 or more. */
  private static boolean isPower(int n) {
    int p = 2;
    while (p <= n && n % p != 0) {
      p++;
    }
    int rest = n;
    while (rest % p == 0) {
      rest /= p;
    }
    return n > 1 && rest == 1;
  }

  private static int sign(int n) {
    int sign = 1;
    int rest = n;
    for (int p = 2; p <= n; p++) {
      if (rest % p == 0) {
        rest /= p;
        sign = rest % p == 0 ? 0 : -sign;
      }
    }
    return sign;
  }

  private static void putAndAsked(int place) {
    Divisorwork x = new Divisorwork();
    String at = " at " + place;
    due("put" + at, 1, () -> x.put(1, place, -7));
    due("put again" + at, 0, () -> x.put(1, place, -7));
    due("value" + at, "-7", () -> x.value(1, place));
    due("half" + at, -1, () -> x.half(1, place, true));
    due("the other half" + at, -7, () -> x.half(1, place, false));
    due("differ" + at, place, () -> x.differ(1, 0));
    due("differ turned about" + at, place, () -> x.differ(0, 1));
    everywhere("put" + at + " alone", x, 1, n -> n == place ? -7 : 0);
    due("putWide" + at, 1, () -> x.putWide(1, place, 2, 9));
    due("putWide again" + at, 0, () -> x.putWide(1, place, 2, 9));
    due("wide value" + at, "8589934601", () -> x.value(1, place));
    due("wide half" + at, 2, () -> x.half(1, place, true));
    due("the other wide half" + at, 9, () -> x.half(1, place, false));
    everywhere("putWide" + at + " alone", x, 1, n -> n == place ? 8589934601L : 0);
    everywhere("and 0 in the one ahead", x, 0, n -> 0);
    due("put over it" + at, 1, () -> x.put(1, place, 9));
    due("value over it" + at, "9", () -> x.value(1, place));
  }

  private static void countedBySow(int place) {
    Divisorwork x = with(place, MOST);
    due("sow over " + place, 120, () -> x.sow(0, place, 0));
    due("sow over " + place + ": value", "0", () -> x.value(0, place));
  }

  private static void countedByKnow(int place) {
    Divisorwork x = with(place, 1);
    due("know over 1 at " + place, 119, () -> x.know(0, 1));
    x.put(0, place, 0);
    due("know over 0 at " + place, 1, () -> x.know(0, 1));
    due("know over 0 at " + place + ": value", "1", () -> x.value(0, place));
  }

  private static void countedByCopyAndSwap(int place) {
    Divisorwork x = with(place, MOST);
    due("copy of one at " + place, 1, () -> x.copy(0, 1));
    due("copy of one at " + place + ": value", MOST, () -> x.value(1, place));
    due("copy again of one at " + place, 0, () -> x.copy(0, 1));
    due("swap of one at " + place, 1, () -> x.swap(0, 2));
    due("swap of one at " + place + ": there", MOST, () -> x.value(2, place));
    due("swap of one at " + place + ": here", "0", () -> x.value(0, place));
    due("swap of two alike at " + place, 0, () -> x.swap(1, 2));
    due("copy of 0 over one at " + place, 1, () -> x.copy(3, 1));
    due("copy of 0 over one at " + place + ": value", "0", () -> x.value(1, place));
  }

  private static void totals(int place) {
    Divisorwork x = with(place, -5);
    due("total up to " + (place - 1), "0", () -> x.total(0, place - 1));
    due("total up to " + place, "-5", () -> x.total(0, place));
    due("total up to 120 of one at " + place, "-5", () -> x.total(0, 120));
    Divisorwork y = new Divisorwork();
    y.know(3, 2);
    due("total of n up to " + place, place * (place + 1) / 2, () -> y.total(3, place));
  }

  private static void totalBeyond(int place) {
    Divisorwork x = with(1, place == 1 ? MOST - 1 : MOST);
    if (place == 1) {
      due("total up to 1", MOST - 1, () -> x.total(0, 1));
    } else {
      x.put(0, place, 1);
      due("total just LET up to " + (place - 1), MOST, () -> x.total(0, place - 1));
      CHECKS.thrown("total BEYOND up to " + place, Checks.STATE, x, () -> x.total(0, place));
      CHECKS.thrown("total BEYOND at " + place + ", up to 120", Checks.STATE, x, () -> x.total(0, 120));
    }
  }

  private static void sizes(int place) {
    for (int i = 0; i <= 2; i++) {
      int how = i;
      Divisorwork x = with(place, -1000001);
      CHECKS.thrown("too far below 0 at " + place, Checks.STATE, x, () -> x.totalOfProduct(0, 1, place, how));
      CHECKS.thrown("the other one, below 0 at " + place, Checks.STATE, x, () -> x.totalOfProduct(1, 0, place, how));
      x.put(0, place, 1000001);
      CHECKS.thrown("too great at " + place, Checks.STATE, x, () -> x.totalOfProduct(0, 1, place, how));
      CHECKS.thrown("the other one, too great at " + place, Checks.STATE, x,
          () -> x.totalOfProduct(1, 0, place, how));
      if (place > 1) {
        due("too great behind " + (place - 1), "0", () -> x.totalOfProduct(0, 1, place - 1, how));
        due("the other one, too great behind " + (place - 1), "0", () -> x.totalOfProduct(1, 0, place - 1, how));
      }
    }
  }

  private static void met(int place) {
    Divisorwork x = with(place, MOST);
    x.put(1, place, -1);
    String at = " at " + place;
    due("sum" + at, 1, () -> x.meet(0, 1, 0, 2));
    everywhere("sum" + at, x, 2, n -> n == place ? MOST - 1 : 0);
    CHECKS.refused("one less the other" + at, x, () -> x.meet(0, 1, 1, 2));
    due("product" + at, 1, () -> x.meet(0, 1, 2, 2));
    everywhere("product" + at, x, 2, n -> n == place ? LEAST + 1 : 0);
    x.put(1, place, 2);
    CHECKS.refused("sum BEYOND" + at, x, () -> x.meet(0, 1, 0, 2));
    due("one less 2" + at, 1, () -> x.meet(0, 1, 1, 2));
    due("one less 2" + at + ": value", MOST - 2, () -> x.value(2, place));
    CHECKS.refused("product BEYOND" + at, x, () -> x.meet(0, 1, 2, 2));
  }

  /** One at a by one at b is at a * b alone; behind 120 it is nowhere, and not reckoned. */
  private static void productOf(int a, int b) {
    Divisorwork x = with(a, 5);
    x.put(1, b, -3);
    String of = " of " + a + " and " + b;
    if (a * b > 120) {
      Checks.putLong(x, 0, a, MOST);
      due("PRODUCT" + of, 0, () -> x.multiply(0, 1, 2));
      return;
    }
    due("PRODUCT" + of, 1, () -> x.multiply(0, 1, 2));
    due("PRODUCT" + of + ": where", a * b, () -> x.differ(2, 3));
    due("PRODUCT" + of + ": what", "-15", () -> x.value(2, a * b));
    for (int i = 0; i <= 2; i++) {
      int how = i;
      due("TOTAL of PRODUCT" + of, "-15", () -> x.totalOfProduct(0, 1, a * b, how));
      due("TOTAL of PRODUCT" + of + " up to 120", "-15", () -> x.totalOfProduct(0, 1, 120, how));
      if (a * b > 1) {
        due("TOTAL of PRODUCT ahead" + of, "0", () -> x.totalOfProduct(0, 1, a * b - 1, how));
      }
    }
    Checks.putLong(x, 0, a, MOST);
    CHECKS.refused("PRODUCT BEYOND" + of, x, () -> x.multiply(0, 1, 2));
    x.put(1, b, 1);
    due("PRODUCT just LET" + of, 1, () -> x.multiply(0, 1, 2));
    due("PRODUCT just LET" + of + ": what", MOST, () -> x.value(2, a * b));
  }

  /** With v at place beside 1 at 1 the INVERSE has -v by itself, k times, at place to the power k. */
  private static void inverse(int place) {
    if (place == 1) {
      return;
    }
    for (int first : new int[] {1, -1}) {
      Divisorwork x = with(place, 3);
      x.put(0, 1, first);
      x.make(0, 0, 1);
      everywhere("INVERSE with " + first + " at 1 and 3 at " + place, x, 1, n -> inverseAt(n, place, first));
      due("and it has that at " + place, true, () -> x.is(0, 3));
      Checks.putLong(x, 0, place, LEAST);
      CHECKS.refused("INVERSE with " + first + " at 1 and -2^63 at " + place, x, () -> x.make(0, 0, 1));
      due("and it goes BEYOND at " + place, false, () -> x.is(0, 3));
      due("and it has one at " + place, true, () -> x.is(0, 2));
    }
  }

  private static long inverseAt(int n, int place, int first) {
    long value = first;
    int rest = n;
    while (rest % place == 0) {
      rest /= place;
      value *= -3 * first;
    }
    return rest == 1 ? value : 0;
  }

  private static void summed(int place) {
    Divisorwork x = with(place, 4);
    due("SUMMED 4 at " + place, 120 / place, () -> x.make(0, 1, 1));
    everywhere("SUMMED 4 at " + place, x, 1, n -> n % place == 0 ? 4 : 0);
    Checks.putLong(x, 0, place, MOST);
    due("SUMMED 2^63 - 1 at " + place, 120 / place, () -> x.make(0, 1, 1));
    if (place > 1) {
      x.put(0, 1, 1);
      CHECKS.refused("SUMMED 1 and 2^63 - 1 at " + place, x, () -> x.make(0, 1, 1));
    }
  }

  private static void signed(int place) {
    Divisorwork x = with(place, 4);
    x.make(0, 2, 1);
    everywhere("SIGNED 4 at " + place, x, 1, n -> n % place == 0 ? 4 * sign(n / place) : 0);
    Checks.putLong(x, 0, place, LEAST);
    if (2 * place <= 120) {
      CHECKS.refused("SIGNED -2^63 at " + place, x, () -> x.make(0, 2, 1));
    } else {
      due("SIGNED -2^63 at " + place, 1, () -> x.make(0, 2, 1));
    }
  }

  /** 1 everywhere but at place: if that is p^k, it goes to all n that have just that p^k in them. */
  private static void byPrimes(int place) {
    Divisorwork x = new Divisorwork();
    x.know(0, 1);
    x.put(0, place, 6);
    x.make(0, 3, 1);
    everywhere("BY PRIMES, 6 at " + place, x, 1,
        n -> isPower(place) && n % place == 0 && common(place, n / place) == 1 ? 6 : 1);
  }

  private static void turnedAndByPlace(int place) {
    Divisorwork x = with(place, 4);
    due("turned at " + place, 1, () -> x.make(0, 4, 1));
    everywhere("turned at " + place, x, 1, n -> n == place ? -4 : 0);
    due("by n at " + place, 1, () -> x.make(0, 5, 1));
    everywhere("by n at " + place, x, 1, n -> n == place ? 4 * place : 0);
    Checks.putLong(x, 0, place, LEAST);
    CHECKS.refused("-2^63 turned at " + place, x, () -> x.make(0, 4, 1));
    if (place > 1) {
      CHECKS.refused("-2^63 by n at " + place, x, () -> x.make(0, 5, 1));
    }
    Checks.putLong(x, 0, place, MOST / place);
    due("the greatest by n at " + place, 1, () -> x.make(0, 5, 1));
    if (place > 1) {
      Checks.putLong(x, 0, place, MOST / place + 1);
      CHECKS.refused("one more by n at " + place, x, () -> x.make(0, 5, 1));
    }
  }

  /** 1 everywhere, or UNIT, but another value at place. */
  private static void isByPrimes(int place) {
    for (int known = 0; known <= 1; known++) {
      for (int value : new int[] {1, 2}) {
        Divisorwork x = new Divisorwork();
        x.know(0, known);
        x.put(0, place, value);
        long[] f = new long[121];
        for (int n = 1; n <= 120; n++) {
          f[n] = n == place ? value : n == 1 ? 1 : known;
        }
        String what = "KNOWN " + known + " with " + value + " at " + place;
        due(what + ": BY PRIMES", isIt(f, false), () -> x.is(0, 0));
        due(what + ": WHOLLY so", isIt(f, true), () -> x.is(0, 1));
      }
    }
  }

  private static boolean isIt(long[] f, boolean isWholly) {
    boolean isIt = f[1] == 1;
    for (int a = 1; a <= 120; a++) {
      for (int b = 1; a * b <= 120; b++) {
        if (isWholly || common(a, b) == 1) {
          isIt &= f[a * b] == f[a] * f[b];
        }
      }
    }
    return isIt;
  }

  /** At each place of the table one that is too great is seen by every size that has it, and by no other one. */
  private static void determinants() {
    for (int p = 1; p <= 120; p++) {
      int place = p;
      for (int i = 1; i <= 6; i++) {
        int size = i;
        Divisorwork x = with(place, 101);
        for (int j = 0; j <= 1; j++) {
          int how = j;
          String what = "determinant of " + size + " with 101 at " + place;
          if (place <= size) {
            CHECKS.thrown(what, Checks.STATE, x, () -> x.determinant(0, size, how));
          } else {
            due(what, "0", () -> x.determinant(0, size, how));
          }
        }
      }
    }
  }
}
