/**
 * Promises 2 to 28, argument by argument: the smallest one and the greatest one that is allowed, with what
 * is answered and what the corners of the functions are then, and the first one beyond each end.
 */
public final class RangesTest {
  private interface Asked {
    Object answer(Divisorwork x, int argument);
  }

  private static final Checks CHECKS = new Checks();
  private static final String INDEX = Checks.INDEX;
  private static final String ARGUMENT = Checks.ARGUMENT;
  private static final int MIN = Integer.MIN_VALUE;
  private static final int MAX = Integer.MAX_VALUE;

  public static void main(String[] args) {
    know();
    put();
    putWide();
    sow();
    copy();
    swap();
    meet();
    multiply();
    make();
    value();
    half();
    differ();
    is();
    total();
    totalOfProduct();
    determinant();
    tau();
    sigma();
    phi();
    sign();
    square();
    squareless();
    apart();
    shared();
    divisor();
    powers();
    house();
    CHECKS.end();
  }

  /** Functions that are 0 but at 1 and at 120, and there each has values of its own. */
  private static Divisorwork cornered() {
    Divisorwork x = new Divisorwork();
    for (int f = 0; f < 4; f++) {
      x.put(f, 1, 10 * f + 11);
      x.put(f, 120, 10 * f + 12);
    }
    return x;
  }

  private static String corners(Divisorwork x) {
    StringBuilder all = new StringBuilder();
    for (int f = 0; f < 4; f++) {
      all.append(f == 0 ? "" : ", ").append(x.value(f, 1)).append(' ').append(x.value(f, 120));
    }
    return all.toString();
  }

  /** Of an act: each end's want is its answer and the corners then. */
  private static void act(String what, String thrown, int least, String leastWant, int most, String mostWant,
      Asked asked) {
    for (int argument : new int[] {least, most}) {
      Divisorwork x = cornered();
      String want = argument == least ? leastWant : mostWant;
      CHECKS.due(what + " " + argument, want, () -> asked.answer(x, argument) + ": " + corners(x));
      CHECKS.due(what + " " + argument + " is one act", 9, () -> x.house(0));
    }
    beyond(what, thrown, least, most, asked);
  }

  /** Of what is no act: each end's want is its answer, and nothing changes. */
  private static void asked(String what, String thrown, int least, Object leastWant, int most, Object mostWant,
      Asked asked) {
    for (int argument : new int[] {least, most}) {
      Divisorwork x = cornered();
      long before = x.digest();
      CHECKS.due(what + " " + argument, argument == least ? leastWant : mostWant, () -> asked.answer(x, argument));
      CHECKS.due(what + " " + argument + " changes nothing", before, x::digest);
    }
    beyond(what, thrown, least, most, asked);
  }

  private static void beyond(String what, String thrown, int least, int most, Asked asked) {
    for (int argument : new int[] {least - 1, most + 1, MIN, MAX}) {
      if (argument < least || argument > most) {
        Divisorwork x = cornered();
        CHECKS.thrown(what + " " + argument, thrown, x, () -> asked.answer(x, argument));
      }
    }
  }

  private static void know() {
    act("know: function", INDEX, 0, "2: 1 0, 21 22, 31 32, 41 42", 3, "2: 11 12, 21 22, 31 32, 1 0",
        (x, f) -> x.know(f, 0));
    act("know: which", ARGUMENT, 0, "2: 11 12, 1 0, 31 32, 41 42", 10, "120: 11 12, 1 14400, 31 32, 41 42",
        (x, which) -> x.know(1, which));
  }

  private static void put() {
    act("put: function", INDEX, 0, "1: 11 7, 21 22, 31 32, 41 42", 3, "1: 11 12, 21 22, 31 32, 41 7",
        (x, f) -> x.put(f, 120, 7));
    act("put: n", ARGUMENT, 1, "1: 11 12, 7 22, 31 32, 41 42", 120, "1: 11 12, 21 7, 31 32, 41 42",
        (x, n) -> x.put(1, n, 7));
    act("put: value", "", MIN, "1: 11 12, -2147483648 22, 31 32, 41 42", MAX,
        "1: 11 12, 2147483647 22, 31 32, 41 42", (x, value) -> x.put(1, 1, value));
  }

  private static void putWide() {
    act("putWide: function", INDEX, 0, "1: 11 4294967303, 21 22, 31 32, 41 42",
        3, "1: 11 12, 21 22, 31 32, 41 4294967303", (x, f) -> x.putWide(f, 120, 1, 7));
    act("putWide: n", ARGUMENT, 1, "1: 11 12, 4294967303 22, 31 32, 41 42",
        120, "1: 11 12, 21 4294967303, 31 32, 41 42", (x, n) -> x.putWide(1, n, 1, 7));
    act("putWide: upper", "", MIN, "1: 11 12, -9223372036854775808 22, 31 32, 41 42",
        MAX, "1: 11 12, 9223372032559808512 22, 31 32, 41 42", (x, upper) -> x.putWide(1, 1, upper, 0));
    act("putWide: lower", "", MIN, "1: 11 12, 2147483648 22, 31 32, 41 42",
        MAX, "1: 11 12, 2147483647 22, 31 32, 41 42", (x, lower) -> x.putWide(1, 1, 0, lower));
  }

  private static void sow() {
    act("sow: function", INDEX, 0, "120: 0 0, 21 22, 31 32, 41 42", 3, "120: 11 12, 21 22, 31 32, 0 0",
        (x, f) -> x.sow(f, 1, 0));
    act("sow: seed", ARGUMENT, 0, "0: 11 12, -284 -488, 31 32, 41 42", 65535, "0: 11 12, 347 441, 31 32, 41 42",
        (x, seed) -> x.sow(1, seed, 500));
    act("sow: wide", ARGUMENT, 0, "120: 11 12, 0 0, 31 32, 41 42", 500, "0: 11 12, 421 173, 31 32, 41 42",
        (x, wide) -> x.sow(1, 7, wide));
    // The first x is 22, 64009, 65535 and 0: x / 64 is 0, 1000, 1023, which is 22 modulo 1001, and 0.
    sownFirst(265, -500);
    sownFirst(1072, 500);
    sownFirst(33870, -478);
    sownFirst(3915, -500);
  }

  private static void sownFirst(int seed, int want) {
    Divisorwork x = new Divisorwork();
    x.sow(3, seed, 500);
    CHECKS.due("sow(3, " + seed + ", 500): the value at 1", want, () -> x.value(3, 1));
  }

  private static void copy() {
    act("copy: from", INDEX, 0, "2: 11 12, 11 12, 31 32, 41 42", 3, "2: 11 12, 41 42, 31 32, 41 42",
        (x, from) -> x.copy(from, 1));
    act("copy: into", INDEX, 0, "2: 21 22, 21 22, 31 32, 41 42", 3, "2: 11 12, 21 22, 31 32, 21 22",
        (x, into) -> x.copy(1, into));
  }

  private static void swap() {
    act("swap: one", INDEX, 0, "2: 21 22, 11 12, 31 32, 41 42", 3, "2: 11 12, 41 42, 31 32, 21 22",
        (x, one) -> x.swap(one, 1));
    act("swap: other", INDEX, 0, "2: 21 22, 11 12, 31 32, 41 42", 3, "2: 11 12, 41 42, 31 32, 21 22",
        (x, other) -> x.swap(1, other));
  }

  private static void meet() {
    act("meet: one", INDEX, 0, "2: 11 12, 21 22, -10 -10, 41 42", 3, "2: 11 12, 21 22, 20 20, 41 42",
        (x, one) -> x.meet(one, 1, 1, 2));
    act("meet: other", INDEX, 0, "2: 11 12, 21 22, 10 10, 41 42", 3, "2: 11 12, 21 22, -20 -20, 41 42",
        (x, other) -> x.meet(1, other, 1, 2));
    act("meet: what", ARGUMENT, 0, "2: 11 12, 21 22, 32 34, 41 42", 2, "2: 11 12, 21 22, 231 264, 41 42",
        (x, what) -> x.meet(0, 1, what, 2));
    act("meet: into", INDEX, 0, "2: 32 34, 21 22, 31 32, 41 42", 3, "2: 11 12, 21 22, 31 32, 32 34",
        (x, into) -> x.meet(0, 1, 0, into));
  }

  private static void multiply() {
    act("multiply: one", INDEX, 0, "2: 11 12, 21 22, 231 494, 41 42", 3, "2: 11 12, 21 22, 861 1784, 41 42",
        (x, one) -> x.multiply(one, 1, 2));
    act("multiply: other", INDEX, 0, "2: 11 12, 21 22, 231 494, 41 42", 3, "2: 11 12, 21 22, 861 1784, 41 42",
        (x, other) -> x.multiply(1, other, 2));
    act("multiply: into", INDEX, 0, "2: 231 494, 21 22, 31 32, 41 42", 3, "2: 11 12, 21 22, 31 32, 231 494",
        (x, into) -> x.multiply(0, 1, into));
  }

  private static void make() {
    act("make: function", INDEX, 0, "2: 11 12, 21 22, -11 -12, 41 42", 3, "2: 11 12, 21 22, -41 -42, 41 42",
        (x, f) -> x.make(f, 4, 2));
    act("make: into", INDEX, 0, "2: -21 -22, 21 22, 31 32, 41 42", 3, "2: 11 12, 21 22, 31 32, -21 -22",
        (x, into) -> x.make(1, 4, into));
    // An INVERSE needs 1 or -1 at 1, which cornered() has nowhere.
    for (int what : new int[] {0, 5}) {
      Divisorwork x = cornered();
      x.put(0, 1, -1);
      String want = what == 0 ? "2: -1 12, 21 22, -1 -12, 41 42" : "2: -1 12, 21 22, -1 1440, 41 42";
      CHECKS.due("make: what " + what, want, () -> x.make(0, what, 2) + ": " + corners(x));
      CHECKS.due("make: what " + what + " is one act", 10, () -> x.house(0));
    }
    beyond("make: what", ARGUMENT, 0, 5, (x, what) -> x.make(1, what, 2));
  }

  private static void value() {
    asked("value: function", INDEX, 0, "12", 3, "42", (x, f) -> x.value(f, 120));
    asked("value: n", ARGUMENT, 1, "31", 120, "32", (x, n) -> x.value(2, n));
  }

  private static void half() {
    asked("half, the last: function", INDEX, 0, 12, 3, 42, (x, f) -> x.half(f, 120, false));
    asked("half, the first: function", INDEX, 0, 0, 3, 0, (x, f) -> x.half(f, 120, true));
    asked("half, the last: n", ARGUMENT, 1, 31, 120, 32, (x, n) -> x.half(2, n, false));
    asked("half, the first: n", ARGUMENT, 1, 0, 120, 0, (x, n) -> x.half(2, n, true));
  }

  private static void differ() {
    asked("differ: one", INDEX, 0, -1, 3, 1, (x, one) -> x.differ(one, 0));
    asked("differ: other", INDEX, 0, 1, 3, -1, (x, other) -> x.differ(3, other));
  }

  private static void is() {
    for (int i = 0; i <= 3; i++) {
      int what = i;
      asked("is, what " + what + ": function", INDEX, 0, false, 3, false, (x, f) -> x.is(f, what));
    }
    asked("is: what", ARGUMENT, 0, false, 3, false, (x, what) -> x.is(2, what));
    Divisorwork x = cornered();
    x.know(0, 0);
    x.know(3, 0);
    for (int what = 0; what <= 3; what++) {
      int asked = what;
      CHECKS.due("is(0, " + what + ") of UNIT", true, () -> x.is(0, asked));
      CHECKS.due("is(3, " + what + ") of UNIT", true, () -> x.is(3, asked));
      CHECKS.due("is(1, " + what + ") beside UNIT", false, () -> x.is(1, asked));
      CHECKS.due("is(2, " + what + ") beside UNIT", false, () -> x.is(2, asked));
    }
  }

  private static void total() {
    asked("total: function", INDEX, 0, "23", 3, "83", (x, f) -> x.total(f, 120));
    asked("total: n", ARGUMENT, 0, "0", 120, "63", (x, n) -> x.total(2, n));
    asked("total: function, of n 0", INDEX, 0, "0", 3, "0", (x, f) -> x.total(f, 0));
  }

  private static void totalOfProduct() {
    for (int i = 0; i <= 2; i++) {
      int how = i;
      asked("totalOfProduct, how " + how + ": one", INDEX, 0, "725", 3, "2645",
          (x, one) -> x.totalOfProduct(one, 1, 120, how));
      asked("totalOfProduct, how " + how + ": other", INDEX, 0, "725", 3, "2645",
          (x, other) -> x.totalOfProduct(1, other, 120, how));
      asked("totalOfProduct, how " + how + ": n", ARGUMENT, 1, "231", 120, "725",
          (x, n) -> x.totalOfProduct(0, 1, n, how));
    }
    asked("totalOfProduct: how", ARGUMENT, 0, "725", 2, "725", (x, how) -> x.totalOfProduct(0, 1, 120, how));
  }

  private static void determinant() {
    for (int i = 0; i <= 1; i++) {
      int how = i;
      asked("determinant, how " + how + ": function", INDEX, 0, "11", 3, "41", (x, f) -> x.determinant(f, 1, how));
      // With 11 at 1 and 0 at 2 to 6, the rows 2, 4 and 6 of the table are the same.
      asked("determinant, how " + how + ": size", ARGUMENT, 1, "11", 6, "0", (x, size) -> x.determinant(0, size, how));
    }
    asked("determinant: how", ARGUMENT, 0, "31", 1, "31", (x, how) -> x.determinant(2, 1, how));
  }

  private static void tau() {
    for (int i = 0; i <= 2; i++) {
      int how = i;
      asked("tau, how " + how + ": n", ARGUMENT, 1, 1, 999, 8, (x, n) -> x.tau(n, how));
    }
    asked("tau: how", ARGUMENT, 0, 16, 2, 16, (x, how) -> x.tau(120, how));
  }

  private static void sigma() {
    for (int i = 0; i <= 1; i++) {
      int how = i;
      asked("sigma, how " + how + ": n", ARGUMENT, 1, 1, 999, 1520, (x, n) -> x.sigma(n, how));
    }
    asked("sigma: how", ARGUMENT, 0, 360, 1, 360, (x, how) -> x.sigma(120, how));
  }

  private static void phi() {
    for (int i = 0; i <= 2; i++) {
      int how = i;
      asked("phi, how " + how + ": n", ARGUMENT, 1, 1, 999, 648, (x, n) -> x.phi(n, how));
    }
    asked("phi: how", ARGUMENT, 0, 32, 2, 32, (x, how) -> x.phi(120, how));
  }

  private static void sign() {
    for (int i = 0; i <= 1; i++) {
      int how = i;
      asked("sign, how " + how + ": n", ARGUMENT, 1, 1, 999, 0, (x, n) -> x.sign(n, how));
    }
    asked("sign: how", ARGUMENT, 0, -1, 1, -1, (x, how) -> x.sign(997, how));
  }

  private static void square() {
    for (int i = 0; i <= 1; i++) {
      int how = i;
      asked("square, how " + how + ": n", ARGUMENT, 1, 1, 999, 9, (x, n) -> x.square(n, how));
    }
    asked("square: how", ARGUMENT, 0, 961, 1, 961, (x, how) -> x.square(961, how));
  }

  private static void squareless() {
    for (int i = 0; i <= 1; i++) {
      int how = i;
      asked("squareless, how " + how + ": n", ARGUMENT, 1, 1, 999, 608, (x, n) -> x.squareless(n, how));
    }
    asked("squareless: how", ARGUMENT, 0, 61, 1, 61, (x, how) -> x.squareless(100, how));
  }

  private static void apart() {
    for (int i = 0; i <= 2; i++) {
      int how = i;
      asked("apart, how " + how + ": n", ARGUMENT, 1, 1, 120, 8771, (x, n) -> x.apart(n, how));
    }
    asked("apart: how", ARGUMENT, 0, 6087, 2, 6087, (x, how) -> x.apart(100, how));
  }

  private static void shared() {
    asked("shared, COMMON: a", ARGUMENT, 1, 1, 999, 3, (x, a) -> x.shared(a, 6, false));
    asked("shared, COMMON: b", ARGUMENT, 1, 1, 999, 3, (x, b) -> x.shared(6, b, false));
    asked("shared, LEAST: a", ARGUMENT, 1, 6, 999, 1998, (x, a) -> x.shared(a, 6, true));
    asked("shared, LEAST: b", ARGUMENT, 1, 6, 999, 1998, (x, b) -> x.shared(6, b, true));
    asked("shared, LEAST: a of the greatest", ARGUMENT, 1, 998, 999, 997002, (x, a) -> x.shared(a, 998, true));
  }

  private static void divisor() {
    asked("divisor 0: n", ARGUMENT, 1, 1, 999, 1, (x, n) -> x.divisor(n, 0));
    asked("divisor 7: n", ARGUMENT, 1, -1, 999, 999, (x, n) -> x.divisor(n, 7));
    asked("divisor: k", ARGUMENT, 0, 1, MAX, -1, (x, k) -> x.divisor(999, k));
    // 1 has just one DIVISOR, a PRIME has just two, 999 has eight.
    Divisorwork x = new Divisorwork();
    CHECKS.due("divisor(1, 1)", -1, () -> x.divisor(1, 1));
    CHECKS.due("divisor(997, 1)", 997, () -> x.divisor(997, 1));
    CHECKS.due("divisor(997, 2)", -1, () -> x.divisor(997, 2));
    CHECKS.due("divisor(999, 8)", -1, () -> x.divisor(999, 8));
  }

  private static void powers() {
    asked("powers: n", ARGUMENT, 1, "", 999, "3^3 37^1", (x, n) -> x.powers(n));
  }

  private static void house() {
    asked("house: what", ARGUMENT, 0, 8, 2, 0, (x, what) -> x.house(what));
  }
}
