/**
 * Promises 3, 4, 6 to 14: values at the ends of what is LET, and what comes of them by each act that may be
 * REFUSED: just LET, just not LET, and LET at the end but BEYOND on the way.
 */
public final class LetTest {
  private static final Checks CHECKS = new Checks();
  private static final long LEAST = Long.MIN_VALUE;
  private static final long MOST = Long.MAX_VALUE;
  private static final long HALF = 1L << 62;
  /** The greatest number whose product with itself is LET. */
  private static final long ROOT = 3037000499L;
  /** The greatest number whose product with 120 is LET. */
  private static final long PART = 76861433640456465L;

  public static void main(String[] args) {
    valuesAreLet();
    othersAreCountedByBothHalves();
    sumOfTwo();
    oneLessTheOther();
    productOfTwo();
    oneBeyondRefusesAll();
    productOfFunctions();
    productBeyondOnTheWay();
    hasInverse();
    inverse();
    inverseBeyondOnTheWay();
    summed();
    summedBeyondOnTheWay();
    signed();
    signedBeyondOnTheWay();
    byPrimes();
    byPrimesBeyondOnTheWay();
    turned();
    byPlace();
    isByPrimes();
    doubledToTheEnd();
    nothingStaysBehind();
    CHECKS.end();
  }

  private static void due(String what, Object want, Checks.Call call) {
    CHECKS.due(what, want, call);
  }

  /** Function 0 with these numbers at these places, in pairs, and 0 elsewhere. */
  private static Divisorwork with(long... pairs) {
    Divisorwork x = new Divisorwork();
    lay(x, 0, pairs);
    return x;
  }

  private static void lay(Divisorwork x, int function, long... pairs) {
    for (int i = 0; i < pairs.length; i += 2) {
      Checks.putLong(x, function, (int) pairs[i], pairs[i + 1]);
    }
  }

  private static void valuesAreLet() {
    long[] all = {LEAST, LEAST + 1, -1, 0, 1, MOST - 1, MOST};
    for (long number : all) {
      for (int place : new int[] {1, 120}) {
        Divisorwork x = with(place, number);
        String what = number + " at " + place;
        due(what + ": value", Long.toString(number), () -> x.value(0, place));
        due(what + ": the first half", (int) (number >> 32), () -> x.half(0, place, true));
        due(what + ": the last half", (int) number, () -> x.half(0, place, false));
        due(what + ": put by its halves", 0,
            () -> x.putWide(0, place, x.half(0, place, true), x.half(0, place, false)));
        due(what + ": copied", number == 0 ? 0 : 1, () -> x.copy(0, 3));
        due(what + ": the copy", -1, () -> x.differ(0, 3));
        due(what + ": changed with 0", number == 0 ? 0 : 1, () -> x.swap(0, 1));
        due(what + ": changed with 0, there", Long.toString(number), () -> x.value(1, place));
        due(what + ": changed with 0, here", "0", () -> x.value(0, place));
      }
    }
  }

  /** Two numbers with the same first 32 digits, or with the same last 32, are others all the same. */
  private static void othersAreCountedByBothHalves() {
    Divisorwork x = with(5, 1L << 32, 120, LEAST);
    due("putWide: 0 in place of 2^32", 1, () -> x.putWide(0, 5, 0, 0));
    due("putWide: 2^32 in place of 0", 1, () -> x.putWide(0, 5, 1, 0));
    due("putWide: 2^32 + 1 in place of 2^32", 1, () -> x.putWide(0, 5, 1, 1));
    due("put: 1 in place of 2^32 + 1", 1, () -> x.put(0, 5, 1));
    x.putWide(0, 5, 1, 0);
    due("differ by the first half", 5, () -> x.differ(0, 1));
    due("differ by the first half, turned about", 5, () -> x.differ(1, 0));
    due("swap counts them", 2, () -> x.swap(0, 1));
    due("copy counts them", 2, () -> x.copy(1, 0));
    due("know counts them", 3, () -> x.know(0, 0));
    lay(x, 2, 120, MOST);
    due("differ at 120", 5, () -> x.differ(1, 2));
    x.put(1, 5, 0);
    due("differ at 120 alone", 120, () -> x.differ(1, 2));
  }

  /** The sums, by meet() at 1 and at 120, with the two either way round; null if it is not LET. */
  private static void sums(long one, long other, Long want) {
    met(0, one, other, want);
    met(0, other, one, want);
  }

  private static void products(long one, long other, Long want) {
    met(2, one, other, want);
    met(2, other, one, want);
  }

  private static void met(int what, long one, long other, Long want) {
    for (int place : new int[] {1, 120}) {
      Divisorwork x = with(place, one);
      lay(x, 1, place, other);
      // 7 is what comes of none of the calls.
      x.put(2, place, 7);
      String told = "meet " + what + " at " + place + ": " + one + " and " + other;
      if (want == null) {
        CHECKS.refused(told, x, () -> x.meet(0, 1, what, 2));
        due(told + " is not put", "7", () -> x.value(2, place));
      } else {
        due(told, 1, () -> x.meet(0, 1, what, 2));
        due(told + " is put", want, () -> x.value(2, place));
        due(told + " is an act", "4 0", () -> counts(x));
      }
    }
  }

  /** How many acts were done, and how often REFUSED was told. */
  private static String counts(Divisorwork x) {
    return x.house(0) + " " + x.house(1);
  }

  private static void sumOfTwo() {
    sums(MOST, 0, MOST);
    sums(MOST, 1, null);
    sums(MOST - 1, 1, MOST);
    sums(MOST, -1, MOST - 1);
    sums(MOST, MOST, null);
    sums(HALF, HALF - 1, MOST);
    sums(HALF, HALF, null);
    sums(LEAST, 0, LEAST);
    sums(LEAST, -1, null);
    sums(LEAST + 1, -1, LEAST);
    sums(LEAST, 1, LEAST + 1);
    sums(LEAST, LEAST, null);
    sums(-HALF, -HALF, LEAST);
    sums(-HALF, -HALF - 1, null);
    sums(LEAST, MOST, -1L);
  }

  private static void oneLessTheOther() {
    met(1, MOST, 0, MOST);
    met(1, MOST, -1, null);
    met(1, MOST - 1, -1, MOST);
    met(1, MOST, 1, MOST - 1);
    met(1, MOST, MOST, 0L);
    met(1, MOST, LEAST, null);
    met(1, LEAST, 0, LEAST);
    met(1, LEAST, 1, null);
    met(1, LEAST + 1, 1, LEAST);
    met(1, LEAST, -1, LEAST + 1);
    met(1, LEAST, LEAST, 0L);
    met(1, LEAST, MOST, null);
    met(1, 0, LEAST, null);
    met(1, -1, LEAST, MOST);
    met(1, 0, LEAST + 1, MOST);
    met(1, 0, MOST, LEAST + 1);
    met(1, -1, MOST, LEAST);
    met(1, -2, MOST, null);
  }

  private static void productOfTwo() {
    products(LEAST, 0, 0L);
    products(LEAST, 1, LEAST);
    products(LEAST, -1, null);
    products(LEAST, 2, null);
    products(LEAST, LEAST, null);
    products(LEAST, MOST, null);
    products(LEAST + 1, -1, MOST);
    products(MOST, 0, 0L);
    products(MOST, 1, MOST);
    products(MOST, -1, LEAST + 1);
    products(MOST, 2, null);
    products(MOST, -2, null);
    products(MOST, MOST, null);
    products(MOST / 7, 7, MOST);
    products(MOST / 7 + 1, 7, null);
    products(HALF, 2, null);
    products(HALF, -2, LEAST);
    products(-HALF, 2, LEAST);
    products(-HALF, -2, null);
    products(1L << 32, 1L << 31, null);
    products(1L << 32, -(1L << 31), LEAST);
    // The product wraps around onto 0.
    products(1L << 32, 1L << 32, null);
    products(ROOT, ROOT, ROOT * ROOT);
    products(ROOT + 1, ROOT + 1, null);
    products(-ROOT - 1, ROOT + 1, null);
  }

  /** One value of 120 that is not LET keeps all the others as they were. */
  private static void oneBeyondRefusesAll() {
    for (int place : new int[] {1, 60, 120}) {
      Divisorwork x = new Divisorwork();
      x.know(0, 2);
      x.know(1, 2);
      lay(x, 0, place, MOST);
      CHECKS.refused("a sum not LET at " + place + " alone", x, () -> x.meet(0, 1, 0, 2));
      due("all of them stay 0", -1, () -> x.differ(2, 3));
      CHECKS.refused("a sum not LET at " + place + ", into the one", x, () -> x.meet(0, 1, 0, 0));
      CHECKS.refused("a sum not LET at " + place + ", into the other one", x, () -> x.meet(0, 1, 0, 1));
      lay(x, 0, place, MOST - place);
      due("with just LET at " + place, 120, () -> x.meet(0, 1, 0, 2));
    }
  }

  private static void productOfFunctions() {
    Divisorwork x = with(1, LEAST);
    lay(x, 1, 1, 1);
    due("PRODUCT: -2^63 by 1", 1, () -> x.multiply(0, 1, 2));
    due("PRODUCT: 1 by -2^63", 0, () -> x.multiply(1, 0, 2));
    due("PRODUCT at 1", LEAST, () -> x.value(2, 1));
    x.put(1, 1, -1);
    CHECKS.refused("PRODUCT: -2^63 by -1", x, () -> x.multiply(0, 1, 2));
    CHECKS.refused("PRODUCT: -1 by -2^63", x, () -> x.multiply(1, 0, 2));
    lay(x, 0, 1, MOST);
    due("PRODUCT: 2^63 - 1 by -1", 1, () -> x.multiply(0, 1, 2));
    // At 120 alone: 8 by 15, and nothing else.
    Divisorwork y = with(8, HALF);
    lay(y, 1, 15, 2);
    CHECKS.refused("PRODUCT: 2^62 by 2 at 120", y, () -> y.multiply(0, 1, 2));
    y.put(1, 15, -2);
    due("PRODUCT: 2^62 by -2 at 120", 1, () -> y.multiply(0, 1, 2));
    due("PRODUCT at 120", LEAST, () -> y.value(2, 120));
    // 11 by 11 is above 120, so nothing is reckoned of it.
    Divisorwork z = with(11, MOST);
    due("PRODUCT: nothing at 121", 0, () -> z.multiply(0, 0, 1));
    lay(z, 0, 10, 2);
    CHECKS.refused("PRODUCT: 2 by 2^63 - 1 at 110", z, () -> z.multiply(0, 0, 1));
  }

  /** At 6 the sum goes over 1, 2, 3 and 6; the functions are laid so that no other place has much. */
  private static void productBeyondOnTheWay() {
    // 2^63 - 1, then 1 more, then 1 less.
    Divisorwork x = with(2, MOST, 3, 1, 6, -1);
    lay(x, 1, 1, 1, 2, 1, 3, 1);
    CHECKS.refused("PRODUCT: a sum above on the way", x, () -> x.multiply(0, 1, 2));
    lay(x, 0, 3, -1, 6, 1);
    due("PRODUCT: the same, 1 less first", 7, () -> x.multiply(0, 1, 2));
    due("PRODUCT: its end", MOST, () -> x.value(2, 6));
    lay(x, 0, 2, LEAST, 3, -1, 6, 1);
    CHECKS.refused("PRODUCT: a sum below on the way", x, () -> x.multiply(0, 1, 2));
    lay(x, 0, 3, 1, 6, -1);
    due("PRODUCT: the same, 1 more first", 7, () -> x.multiply(0, 1, 2));
    due("PRODUCT: its end below", LEAST, () -> x.value(2, 6));
    // The product alone is 2^63, with the next one it would be 2^63 - 1.
    Divisorwork y = with(2, HALF, 3, -1);
    lay(y, 1, 2, 1, 3, 2);
    CHECKS.refused("PRODUCT: a product above on the way", y, () -> y.multiply(0, 1, 2));
    lay(y, 0, 2, -HALF, 3, 1);
    due("PRODUCT: a product of -2^63 on the way", 3, () -> y.multiply(0, 1, 2));
    due("PRODUCT: the end behind it", LEAST + 1, () -> y.value(2, 6));
    // A product that goes BEYOND by a value of 0 is none.
    Divisorwork z = with(2, LEAST, 3, MOST);
    due("PRODUCT with 0 everywhere", 0, () -> z.multiply(0, 1, 2));
  }

  private static void hasInverse() {
    long[] firsts = {0, 2, -2, LEAST, MOST, LEAST + 1, (1L << 32) + 1, (1L << 32) - 1, -(1L << 32) - 1};
    for (long first : firsts) {
      Divisorwork x = with(1, first);
      due(first + " at 1: is(0, 2)", false, () -> x.is(0, 2));
      due(first + " at 1: is(0, 3)", false, () -> x.is(0, 3));
      CHECKS.refused(first + " at 1: no INVERSE", x, () -> x.make(0, 0, 1));
      CHECKS.refused(first + " at 1: no INVERSE, into itself", x, () -> x.make(0, 0, 0));
    }
    for (long first : new long[] {1, -1}) {
      Divisorwork x = with(1, first);
      due(first + " at 1: is(0, 2)", true, () -> x.is(0, 2));
      due(first + " at 1: is(0, 3)", true, () -> x.is(0, 3));
      due(first + " at 1: the INVERSE is itself", 0, () -> x.make(0, 0, 0));
    }
  }

  /** The INVERSE of these goes BEYOND, and is(.., 3) tells so. */
  private static void inverseRefused(String what, long... pairs) {
    Divisorwork x = with(pairs);
    due(what + ": is(0, 2)", true, () -> x.is(0, 2));
    due(what + ": is(0, 3)", false, () -> x.is(0, 3));
    CHECKS.refused(what, x, () -> x.make(0, 0, 1));
    CHECKS.refused(what + ", into itself", x, () -> x.make(0, 0, 0));
  }

  private static void inverseLet(String what, int place, long want, long... pairs) {
    Divisorwork x = with(pairs);
    due(what + ": is(0, 2)", true, () -> x.is(0, 2));
    due(what + ": is(0, 3)", true, () -> x.is(0, 3));
    due(what + ": asked, house()", "0 0", () -> x.house(1) + " " + x.house(2));
    x.make(0, 0, 1);
    due(what, want, () -> x.value(1, place));
    x.make(1, 0, 2);
    due(what + ": the INVERSE of it is the first one", -1, () -> x.differ(0, 2));
  }

  private static void inverse() {
    inverseLet("INVERSE: 2^63 - 1 at 120", 120, LEAST + 1, 1, 1, 120, MOST);
    inverseLet("INVERSE: 2^63 - 1 at 120 with -1 at 1", 120, LEAST + 1, 1, -1, 120, MOST);
    inverseLet("INVERSE: -2^63 + 1 at 120", 120, MOST, 1, 1, 120, LEAST + 1);
    // s is -2^63, and by -1 it is not LET.
    inverseRefused("INVERSE: -2^63 at 120", 1, 1, 120, LEAST);
    // The first product, -2^63 by -1, is not LET.
    inverseRefused("INVERSE: -2^63 at 120 with -1 at 1", 1, -1, 120, LEAST);
    inverseRefused("INVERSE: -2^63 at 61", 1, 1, 61, LEAST);
  }

  /** At 77 s goes over 7, 11 and 77; at 49 over 7 and 49. */
  private static void inverseBeyondOnTheWay() {
    // s is -2^63 + 1 at the end.
    inverseLet("INVERSE: s of -2^63, then 1 more", 77, MOST, 1, 1, 7, 1, 11, HALF, 77, 1);
    inverseRefused("INVERSE: s of -2^63, by -1", 1, 1, 7, 1, 11, HALF);
    Divisorwork x = with(1, -1, 7, 1, 11, HALF);
    due("INVERSE: s of -2^63, by 1: is(0, 3)", true, () -> x.is(0, 3));
    due("INVERSE: s of -2^63, by 1", 5, () -> x.make(0, 0, 1));
    due("INVERSE: s of -2^63, by 1, at 77", LEAST, () -> x.value(1, 77));
    // s is 1 below -2^63 on the way, and 2^62 at the end.
    inverseRefused("INVERSE: a sum below on the way", 1, 1, 7, 1, 11, HALF + 1, 77, HALF);
    // s is 2^63 on the way, and 2^63 - 1 at the end.
    inverseRefused("INVERSE: a sum above on the way", 1, 1, 7, -1, 11, HALF, 77, -1);
    inverseLet("INVERSE: a sum of 2^63 - 2 on the way", 77, LEAST + 1, 1, 1, 7, -1, 11, HALF - 1, 77, 1);
    // The product at 7 is below -2^63, and with 2^63 - 1 it would be LET.
    inverseRefused("INVERSE: a product below on the way", 1, 1, 7, ROOT + 1, 49, MOST);
    inverseLet("INVERSE: the greatest product on the way", 49, ROOT * ROOT - MOST, 1, 1, 7, ROOT, 49, MOST);
  }

  private static void summed() {
    Divisorwork x = with(61, LEAST, 120, MOST);
    due("SUMMED: ends that meet nothing", 2, () -> x.make(0, 1, 1));
    due("SUMMED: -2^63", LEAST, () -> x.value(1, 61));
    due("SUMMED: 2^63 - 1", MOST, () -> x.value(1, 120));
    x.put(0, 60, 1);
    CHECKS.refused("SUMMED: 1 and 2^63 - 1 at 120", x, () -> x.make(0, 1, 1));
    lay(x, 0, 60, 0, 1, -1);
    CHECKS.refused("SUMMED: -1 and -2^63 at 61", x, () -> x.make(0, 1, 1));
    lay(x, 0, 1, 0, 61, 0, 60, -1, 120, LEAST);
    CHECKS.refused("SUMMED: -1 and -2^63 at 120", x, () -> x.make(0, 1, 1));
    lay(x, 0, 1, LEAST, 60, 0, 120, 0);
    due("SUMMED: -2^63 at 1, so everywhere, at 61 as before", 119, () -> x.make(0, 1, 1));
    due("SUMMED: everywhere, at 120", LEAST, () -> x.value(1, 120));
  }

  /** At 118 the sum goes over 1, 2, 59 and 118. */
  private static void summedBeyondOnTheWay() {
    Divisorwork x = with(2, 1, 59, MOST, 118, -1);
    CHECKS.refused("SUMMED: above on the way", x, () -> x.make(0, 1, 1));
    CHECKS.refused("SUMMED: above on the way, into itself", x, () -> x.make(0, 1, 0));
    lay(x, 0, 2, -1, 118, 1);
    due("SUMMED: 1 less first", 61, () -> x.make(0, 1, 1));
    due("SUMMED: 1 less first, at 118", MOST, () -> x.value(1, 118));
    lay(x, 0, 59, LEAST);
    CHECKS.refused("SUMMED: below on the way", x, () -> x.make(0, 1, 1));
    lay(x, 0, 2, 1, 118, -1);
    due("SUMMED: 1 more first", 61, () -> x.make(0, 1, 1));
    due("SUMMED: 1 more first, at 118", LEAST, () -> x.value(1, 118));
  }

  private static void signed() {
    Divisorwork x = with(61, LEAST);
    due("SIGNED: 1 by -2^63", 1, () -> x.make(0, 2, 1));
    due("SIGNED: 1 by -2^63, at 61", LEAST, () -> x.value(1, 61));
    lay(x, 0, 61, 0, 60, LEAST);
    CHECKS.refused("SIGNED: -1 by -2^63 at 120", x, () -> x.make(0, 2, 1));
    lay(x, 0, 60, MOST);
    due("SIGNED: -1 by 2^63 - 1 at 120", 3, () -> x.make(0, 2, 1));
    due("SIGNED: -1 by 2^63 - 1, there", LEAST + 1, () -> x.value(1, 120));
    lay(x, 0, 120, -1);
    due("SIGNED: -1, and -1 by 2^63 - 1", 1, () -> x.make(0, 2, 1));
    due("SIGNED: -1, and -1 by 2^63 - 1, there", LEAST, () -> x.value(1, 120));
    lay(x, 0, 120, -2);
    CHECKS.refused("SIGNED: -2, and -1 by 2^63 - 1", x, () -> x.make(0, 2, 1));
    // 120 is 4 by 30 with the SIGN of 4 being 0, but 60 is 2 by 30.
    lay(x, 0, 60, 0, 120, 0, 30, LEAST);
    CHECKS.refused("SIGNED: -1 by -2^63 at 60", x, () -> x.make(0, 2, 1));
  }

  /** At 118 the sum goes over F at 118, 59, 2 and 1, with the SIGNS 1, -1, -1 and 1. */
  private static void signedBeyondOnTheWay() {
    Divisorwork x = with(118, MOST, 59, -1, 2, 1);
    CHECKS.refused("SIGNED: above on the way", x, () -> x.make(0, 2, 1));
    CHECKS.refused("SIGNED: above on the way, into itself", x, () -> x.make(0, 2, 0));
    lay(x, 0, 59, 1, 2, -1);
    due("SIGNED: 1 less first", true, () -> x.make(0, 2, 1) > 0);
    due("SIGNED: 1 less first, at 118", MOST, () -> x.value(1, 118));
    lay(x, 0, 118, LEAST);
    CHECKS.refused("SIGNED: below on the way", x, () -> x.make(0, 2, 1));
    lay(x, 0, 59, -1, 2, 1);
    due("SIGNED: 1 more first", true, () -> x.make(0, 2, 1) > 0);
    due("SIGNED: 1 more first, at 118", LEAST, () -> x.value(1, 118));
    // -1 by -2^63 is not LET, though -1 with it would be.
    lay(x, 0, 118, -1, 59, LEAST, 2, 0);
    CHECKS.refused("SIGNED: a product above on the way", x, () -> x.make(0, 2, 1));
    lay(x, 0, 59, LEAST + 1);
    due("SIGNED: the greatest product on the way", true, () -> x.make(0, 2, 1) > 0);
    due("SIGNED: the greatest product, at 118", MOST - 1, () -> x.value(1, 118));
  }

  private static void byPrimes() {
    Divisorwork x = with(2, 1, 59, LEAST);
    due("BY PRIMES: 1 by -2^63", true, () -> x.make(0, 3, 1) > 0);
    due("BY PRIMES: at 59", LEAST, () -> x.value(1, 59));
    due("BY PRIMES: at 118", LEAST, () -> x.value(1, 118));
    lay(x, 0, 2, -1);
    CHECKS.refused("BY PRIMES: -1 by -2^63 at 118", x, () -> x.make(0, 3, 1));
    lay(x, 0, 2, LEAST, 59, -1);
    CHECKS.refused("BY PRIMES: -2^63 by -1 at 118", x, () -> x.make(0, 3, 1));
    lay(x, 0, 2, HALF, 59, 2);
    CHECKS.refused("BY PRIMES: 2^62 by 2 at 118", x, () -> x.make(0, 3, 1));
    lay(x, 0, 59, -2);
    due("BY PRIMES: 2^62 by -2", true, () -> x.make(0, 3, 1) > 0);
    due("BY PRIMES: 2^62 by -2 at 118", LEAST, () -> x.value(1, 118));
    lay(x, 0, 1, 0, 6, LEAST, 118, MOST, 120, 5);
    due("BY PRIMES: what is at no p^k does not count", 0, () -> x.make(0, 3, 1));
    due("BY PRIMES: of no POWERS", 1, () -> x.value(1, 1));
    lay(x, 0, 113, MOST, 64, LEAST);
    due("BY PRIMES: ends at a PRIME and at 2^6", 2, () -> x.make(0, 3, 1));
  }

  /** The product over 2, 3 and 5 would be 0 at the end, over 8, 3 and 5 too, but the first two go BEYOND. */
  private static void byPrimesBeyondOnTheWay() {
    Divisorwork x = with(2, HALF, 3, 2);
    CHECKS.refused("BY PRIMES: 2^62 by 2 by 0 at 30", x, () -> x.make(0, 3, 1));
    CHECKS.refused("BY PRIMES: 2^62 by 2 by 0, into itself", x, () -> x.make(0, 3, 0));
    lay(x, 0, 2, 0, 8, HALF);
    CHECKS.refused("BY PRIMES: 2^62 by 2 by 0 at 120", x, () -> x.make(0, 3, 1));
    lay(x, 0, 3, 1, 5, 2);
    CHECKS.refused("BY PRIMES: 2^62 by 1 by 2 at 120", x, () -> x.make(0, 3, 1));
    lay(x, 0, 5, -2);
    due("BY PRIMES: 2^62 by 1 by -2", true, () -> x.make(0, 3, 1) > 0);
    due("BY PRIMES: 2^62 by 1 by -2 at 120", LEAST, () -> x.value(1, 120));
  }

  /** One value at one place by make(): null if it is not LET. */
  private static void made(int what, int place, long value, Long want) {
    Divisorwork x = with(place, value);
    String told = "make " + what + " at " + place + ": " + value;
    if (want == null) {
      CHECKS.refused(told, x, () -> x.make(0, what, 1));
      CHECKS.refused(told + ", into itself", x, () -> x.make(0, what, 0));
      due(told + " stays", value, () -> x.value(0, place));
    } else {
      due(told, want == 0 ? 0 : 1, () -> x.make(0, what, 1));
      due(told + " is put", want, () -> x.value(1, place));
      due(told + ", into itself", want == value ? 0 : 1, () -> x.make(0, what, 0));
      due(told + " is an act, twice", "3 0", () -> counts(x));
    }
  }

  private static void turned() {
    for (int place : new int[] {1, 120}) {
      made(4, place, LEAST, null);
      made(4, place, LEAST + 1, MOST);
      made(4, place, MOST, LEAST + 1);
      made(4, place, 0, 0L);
      made(4, place, -1, 1L);
    }
  }

  private static void byPlace() {
    made(5, 1, LEAST, LEAST);
    made(5, 1, MOST, MOST);
    made(5, 2, HALF, null);
    made(5, 2, HALF - 1, MOST - 1);
    made(5, 2, -HALF, LEAST);
    made(5, 2, -HALF - 1, null);
    made(5, 2, LEAST, null);
    made(5, 2, MOST, null);
    made(5, 3, MOST, null);
    made(5, 64, 1L << 57, null);
    made(5, 64, -(1L << 57), LEAST);
    made(5, 120, PART, MOST - 7);
    made(5, 120, PART + 1, null);
    made(5, 120, -PART, LEAST + 8);
    made(5, 120, -PART - 1, null);
    made(5, 120, 0, 0L);
    made(5, 120, LEAST, null);
  }

  /** Whether UNIT with these in pairs is BY PRIMES, and WHOLLY so. */
  private static void isIt(String what, boolean isIt, boolean isWholly, long... pairs) {
    Divisorwork x = new Divisorwork();
    x.know(3, 0);
    lay(x, 3, pairs);
    long before = x.digest();
    due(what + ": BY PRIMES", isIt, () -> x.is(3, 0));
    due(what + ": WHOLLY so", isWholly, () -> x.is(3, 1));
    due(what + ": asking changes nothing", before, x::digest);
    due(what + ": isSound", true, () -> { x.swap(3, 0); return x.isSound(); });
  }

  private static void isByPrimes() {
    isIt("UNIT", true, true);
    isIt("0 at 1", false, false, 1, 0);
    isIt("-1 at 1", false, false, 1, -1);
    isIt("2 at 1", false, false, 1, 2);
    isIt("2^32 + 1 at 1", false, false, 1, (1L << 32) + 1);
    // 8 by 15 is 120, the greatest product of two with no common part; 11 by 11 is above it.
    isIt("1 at 120 alone", false, false, 120, 1);
    isIt("1 at 8, 3, 5, 24, 40 and 15, not at 120", false, false, 3, 1, 5, 1, 8, 1, 15, 1, 24, 1, 40, 1);
    isIt("the same, and at 120", true, false, 3, 1, 5, 1, 8, 1, 15, 1, 24, 1, 40, 1, 120, 1);
    isIt("2^63 - 1 at 11", true, true, 11, MOST);
    isIt("-2^63 at 113", true, true, 113, LEAST);
    isIt("2^63 - 1 at 10 alone", false, false, 10, MOST);
    isIt("-2^63 at 49 alone", true, false, 49, LEAST);
    isIt("2^62 at 11, 2 at 10 by 2 and 5", false, false, 2, 1, 5, 2, 10, 2, 11, HALF, 22, HALF, 55, LEAST, 110, LEAST);
    // These wrap around onto what is there.
    isIt("2^32 by 2^32 is not 0", false, false, 8, 1L << 32, 11, 1L << 32);
    isIt("-2^63 by -1 is not -2^63", false, false, 8, -1, 11, LEAST, 88, LEAST);
    isIt("-1 by -2^63 is not -2^63", false, false, 8, LEAST, 11, -1, 88, LEAST);
    isIt("2^62 by 2 is not -2^63", false, false, 8, HALF, 11, 2, 88, LEAST);
    isIt("2^63 - 1 by itself is not 1", false, false, 8, MOST, 11, MOST, 88, 1);
    isIt("2^62 by -2 is -2^63", true, false, 8, HALF, 11, -2, 88, LEAST);
    isIt("1 by -2^63 is -2^63", true, false, 8, LEAST, 11, 1, 88, LEAST);
    isIt("2^32 by itself is not 0 at 49", true, false, 7, 1L << 32);
  }

  /** 1 doubled 62 times, turned and doubled once more: -2^63 everywhere, and no sum and no turn of that is LET. */
  private static void doubledToTheEnd() {
    Divisorwork x = new Divisorwork();
    x.know(0, 1);
    for (int i = 1; i <= 62; i++) {
      due("doubled, " + i, 120, () -> x.meet(0, 0, 0, 0));
    }
    CHECKS.refused("doubled, 63", x, () -> x.meet(0, 0, 0, 0));
    due("turned", 120, () -> x.make(0, 4, 0));
    due("turned and doubled", 120, () -> x.meet(0, 0, 0, 0));
    due("turned and doubled, at 1", LEAST, () -> x.value(0, 1));
    due("turned and doubled, at 120", LEAST, () -> x.value(0, 120));
    CHECKS.refused("doubled once too often", x, () -> x.meet(0, 0, 0, 0));
    CHECKS.refused("turned again", x, () -> x.make(0, 4, 0));
    CHECKS.refused("SUMMED", x, () -> x.make(0, 1, 0));
    CHECKS.refused("SIGNED", x, () -> x.make(0, 2, 0));
    CHECKS.refused("BY PRIMES", x, () -> x.make(0, 3, 0));
    CHECKS.refused("by n", x, () -> x.make(0, 5, 0));
    CHECKS.refused("INVERSE", x, () -> x.make(0, 0, 0));
    CHECKS.refused("PRODUCT with itself", x, () -> x.multiply(0, 0, 0));
    due("less itself", 120, () -> x.meet(0, 0, 1, 0));
    due("isSound behind all of these", true, x::isSound);
  }

  /** What goes BEYOND in one call has no part in the next one: each is asked just behind a REFUSED act. */
  private static void nothingStaysBehind() {
    Divisorwork x = new Divisorwork();
    x.know(0, 2);
    Checks.putLong(x, 3, 120, LEAST);
    Object[] wants = {120, 120, 119, 120, 119, 119, 119, 118, 120, 119, true, true, true, 7260, 7260};
    Checks.Call[] calls = {
      () -> x.meet(0, 0, 0, 1), () -> x.meet(0, 2, 1, 1), () -> x.meet(0, 0, 2, 1), () -> x.make(0, 4, 1),
      () -> x.multiply(0, 0, 1), () -> x.make(0, 0, 1), () -> x.make(0, 1, 1), () -> x.make(0, 2, 1),
      () -> x.make(0, 4, 1), () -> x.make(0, 5, 1), () -> x.is(0, 0), () -> x.is(0, 3), x::isSound,
      () -> x.total(0, 120), () -> x.totalOfProduct(0, 2, 120, 0),
    };
    for (int i = 0; i < calls.length; i++) {
      x.know(1, 1);
      x.know(2, 0);
      due("-2^63 by 120, ahead of call " + i, -9, () -> x.make(3, 5, 3));
      due("call " + i + " behind what went BEYOND", wants[i], calls[i]);
    }
    due("-2^63 by 120, ahead of BY PRIMES", -9, () -> x.make(3, 5, 3));
    due("BY PRIMES behind what went BEYOND", 0, () -> x.make(0, 3, 0));
  }
}
