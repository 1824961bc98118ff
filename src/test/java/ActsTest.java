/** Promises 1 to 10: a new object and the acts. */
public final class ActsTest {
  private static final Checks CHECKS = new Checks();
  private static final int MIN = Integer.MIN_VALUE;
  private static final int MAX = Integer.MAX_VALUE;

  public static void main(String[] args) {
    newObject();
    know();
    knownValues();
    put();
    putWide();
    sow();
    copy();
    swap();
    meet();
    meetAtTheEdge();
    multiply();
    multiplyBeyond();
    makeInverse();
    makeInverseBeyond();
    makeSummedAndSigned();
    makeByPrimes();
    makeTurnedAndByPlace();
    makeWrong();
    intoItself();
    CHECKS.end();
  }

  private static void due(String what, Object want, Checks.Call call) {
    CHECKS.due(what, want, call);
  }

  private static void values(String what, Divisorwork x, int function, long... wants) {
    CHECKS.values(what, x, function, wants);
  }

  private static void refused(String what, Divisorwork x, Checks.Call call) {
    CHECKS.refused(what, x, call);
  }

  private static void newObject() {
    Divisorwork x = new Divisorwork();
    for (int f = 0; f < 4; f++) {
      for (int n = 1; n <= 120; n++) {
        int function = f;
        int place = n;
        due("new: value(" + f + ", " + n + ")", 0, () -> x.value(function, place));
      }
    }
    due("new: house(0)", 0, () -> x.house(0));
    due("new: house(1)", 0, () -> x.house(1));
    due("new: house(2)", 0, () -> x.house(2));
  }

  private static void know() {
    Divisorwork x = new Divisorwork();
    due("know(3, 0)", 1, () -> x.know(3, 0));
    due("know(3, 0) again", 0, () -> x.know(3, 0));
    due("know(3, 1)", 119, () -> x.know(3, 1));
    due("know(0, 1)", 120, () -> x.know(0, 1));
    due("know: house(0)", 4, () -> x.house(0));
    CHECKS.thrown("know(-1, 0)", Checks.INDEX, x, () -> x.know(-1, 0));
    CHECKS.thrown("know(4, 0)", Checks.INDEX, x, () -> x.know(4, 0));
    CHECKS.thrown("know(4, -1)", Checks.INDEX, x, () -> x.know(4, -1));
    CHECKS.thrown("know(0, -1)", Checks.ARGUMENT, x, () -> x.know(0, -1));
    CHECKS.thrown("know(0, 11)", Checks.ARGUMENT, x, () -> x.know(0, 11));
    CHECKS.thrown("know(MIN, MIN)", Checks.INDEX, x, () -> x.know(MIN, MIN));
    CHECKS.thrown("know(3, MAX)", Checks.ARGUMENT, x, () -> x.know(3, MAX));
  }

  private static void knownValues() {
    long[][] wants = {
      {1, 0, 0, 0, 0, 0, 0, 0, 0, 0, 0, 0},
      {1, 1, 1, 1, 1, 1, 1, 1, 1, 1, 1, 1},
      {1, 2, 3, 4, 5, 6, 7, 8, 9, 10, 11, 12},
      {1, -1, -1, 0, -1, 1, -1, 0, 0, 1, -1, 0},
      {1, 1, 2, 2, 4, 2, 6, 4, 6, 4, 10, 4},
      {1, 2, 2, 3, 2, 4, 2, 4, 3, 4, 2, 6},
      {1, 3, 4, 7, 6, 12, 8, 15, 13, 18, 12, 28},
      {1, 1, 1, 0, 1, 1, 1, 0, 0, 1, 1, 0},
      {1, -1, -1, 1, -1, 1, -1, -1, 1, 1, -1, -1},
      {1, 0, 0, 1, 0, 0, 0, 0, 1, 0, 0, 0},
      {1, 4, 9, 16, 25, 36, 49, 64, 81, 100, 121, 144},
    };
    long[] at120 = {0, 1, 120, 0, 32, 16, 360, 0, -1, 0, 14400};
    for (int which = 0; which <= 10; which++) {
      Divisorwork x = new Divisorwork();
      int known = which;
      x.know(2, known);
      values("KNOWN " + which, x, 2, wants[which]);
      due("KNOWN " + which + " at 120", at120[which], () -> x.value(2, 120));
    }
  }

  private static void put() {
    Divisorwork x = new Divisorwork();
    due("put(0, 1, 0)", 0, () -> x.put(0, 1, 0));
    due("put(0, 1, MIN)", 1, () -> x.put(0, 1, MIN));
    due("put(3, 120, MAX)", 1, () -> x.put(3, 120, MAX));
    due("put(3, 120, MAX) again", 0, () -> x.put(3, 120, MAX));
    due("value(0, 1)", MIN, () -> x.value(0, 1));
    due("value(3, 120)", MAX, () -> x.value(3, 120));
    due("put: house(0)", 4, () -> x.house(0));
    CHECKS.thrown("put(4, 0, 1)", Checks.INDEX, x, () -> x.put(4, 0, 1));
    CHECKS.thrown("put(-1, 1, 1)", Checks.INDEX, x, () -> x.put(-1, 1, 1));
    CHECKS.thrown("put(0, 0, 1)", Checks.ARGUMENT, x, () -> x.put(0, 0, 1));
    CHECKS.thrown("put(0, 121, 1)", Checks.ARGUMENT, x, () -> x.put(0, 121, 1));
    CHECKS.thrown("put(0, MIN, 1)", Checks.ARGUMENT, x, () -> x.put(0, MIN, 1));
  }

  private static void putWide() {
    Divisorwork x = new Divisorwork();
    due("putWide(0, 1, 0, -1)", 1, () -> x.putWide(0, 1, 0, -1));
    due("putWide(0, 1, 0, -1) again", 0, () -> x.putWide(0, 1, 0, -1));
    due("value(0, 1)", 4294967295L, () -> x.value(0, 1));
    due("putWide(0, 2, -1, -5)", 1, () -> x.putWide(0, 2, -1, -5));
    due("value(0, 2)", -5, () -> x.value(0, 2));
    due("putWide(0, 3, 1, 0)", 1, () -> x.putWide(0, 3, 1, 0));
    due("value(0, 3)", 4294967296L, () -> x.value(0, 3));
    due("putWide(0, 120, MIN, 0)", 1, () -> x.putWide(0, 120, MIN, 0));
    due("value(0, 120)", Long.MIN_VALUE, () -> x.value(0, 120));
    due("put(0, 2, -5)", 0, () -> x.put(0, 2, -5));
    due("putWide: house(0)", 6, () -> x.house(0));
    CHECKS.thrown("putWide(4, 121, 0, 1)", Checks.INDEX, x, () -> x.putWide(4, 121, 0, 1));
    CHECKS.thrown("putWide(-1, 1, 0, 1)", Checks.INDEX, x, () -> x.putWide(-1, 1, 0, 1));
    CHECKS.thrown("putWide(0, 0, 0, 1)", Checks.ARGUMENT, x, () -> x.putWide(0, 0, 0, 1));
    CHECKS.thrown("putWide(0, 121, 0, 1)", Checks.ARGUMENT, x, () -> x.putWide(0, 121, 0, 1));
  }

  private static void sow() {
    Divisorwork x = new Divisorwork();
    // 1 * 25173 + 13849 = 39022; 39022 / 64 = 609; 609 modulo 19 = 1; less 9 it is -8.
    due("sow(0, 1, 9)", 7, () -> x.sow(0, 1, 9));
    due("value(0, 1)", -8, () -> x.value(0, 1));
    // 0 * 25173 + 13849 = 13849; 13849 / 64 = 216; 216 modulo 1001 less 500 is -284.
    due("sow(1, 0, 500)", countZeros(0, 500), () -> x.sow(1, 0, 500));
    due("value(1, 1)", -284, () -> x.value(1, 1));
    due("sow(2, 65535, 1)", countZeros(65535, 1), () -> x.sow(2, 65535, 1));
    due("sow(2, 65535, 0)", 120, () -> x.sow(2, 65535, 0));
    due("sow: house(0)", 4, () -> x.house(0));
    for (int n = 1; n <= 120; n++) {
      int place = n;
      due("sown at " + n, sown(0, 500, n), () -> x.value(1, place));
    }
    CHECKS.thrown("sow(4, -1, -1)", Checks.INDEX, x, () -> x.sow(4, -1, -1));
    CHECKS.thrown("sow(-1, 0, 0)", Checks.INDEX, x, () -> x.sow(-1, 0, 0));
    CHECKS.thrown("sow(0, -1, 0)", Checks.ARGUMENT, x, () -> x.sow(0, -1, 0));
    CHECKS.thrown("sow(0, 65536, 0)", Checks.ARGUMENT, x, () -> x.sow(0, 65536, 0));
    CHECKS.thrown("sow(0, 0, -1)", Checks.ARGUMENT, x, () -> x.sow(0, 0, -1));
    CHECKS.thrown("sow(0, 0, 501)", Checks.ARGUMENT, x, () -> x.sow(0, 0, 501));
    CHECKS.thrown("sow(0, MAX, MAX)", Checks.ARGUMENT, x, () -> x.sow(0, MAX, MAX));
  }

  private static long sown(int seed, int wide, int n) {
    long number = seed;
    for (int i = 1; i <= n; i++) {
      number = (number * 25173 + 13849) & 0xFFFF;
    }
    return (number >> 6) % (2 * wide + 1) - wide;
  }

  private static int countZeros(int seed, int wide) {
    int zeros = 0;
    for (int n = 1; n <= 120; n++) {
      zeros += sown(seed, wide, n) == 0 ? 1 : 0;
    }
    return zeros;
  }

  private static void copy() {
    Divisorwork x = new Divisorwork();
    x.know(0, 2);
    x.put(1, 120, 120);
    due("copy(0, 1)", 119, () -> x.copy(0, 1));
    due("copy(0, 1): differ(0, 1)", -1, () -> x.differ(0, 1));
    due("copy(0, 0)", 0, () -> x.copy(0, 0));
    x.put(0, 3, 7);
    due("the copy stays", 3, () -> x.value(1, 3));
    due("copy(1, 0)", 1, () -> x.copy(1, 0));
    due("copy: house(0)", 6, () -> x.house(0));
    CHECKS.thrown("copy(-1, 0)", Checks.INDEX, x, () -> x.copy(-1, 0));
    CHECKS.thrown("copy(0, 4)", Checks.INDEX, x, () -> x.copy(0, 4));
    CHECKS.thrown("copy(4, 0)", Checks.INDEX, x, () -> x.copy(4, 0));
    CHECKS.thrown("copy(0, -1)", Checks.INDEX, x, () -> x.copy(0, -1));
  }

  private static void swap() {
    Divisorwork x = new Divisorwork();
    x.know(0, 1);
    x.know(3, 7);
    due("swap(0, 3)", 45, () -> x.swap(0, 3));
    due("swap: value(0, 4)", 0, () -> x.value(0, 4));
    due("swap: value(3, 4)", 1, () -> x.value(3, 4));
    due("swap(3, 3)", 0, () -> x.swap(3, 3));
    due("swap(3, 3): value(3, 4)", 1, () -> x.value(3, 4));
    x.put(1, 1, 5);
    x.put(1, 120, -6);
    x.put(2, 1, 7);
    x.put(2, 120, 8);
    due("swap(1, 2)", 2, () -> x.swap(1, 2));
    due("swap: value(1, 1)", 7, () -> x.value(1, 1));
    due("swap: value(1, 120)", 8, () -> x.value(1, 120));
    due("swap: value(2, 1)", 5, () -> x.value(2, 1));
    due("swap: value(2, 120)", -6, () -> x.value(2, 120));
    x.put(0, 2, 9);
    due("swapped ones are apart", 1, () -> x.value(3, 2));
    due("swap: house(0)", 10, () -> x.house(0));
    CHECKS.thrown("swap(0, 4)", Checks.INDEX, x, () -> x.swap(0, 4));
    CHECKS.thrown("swap(4, 0)", Checks.INDEX, x, () -> x.swap(4, 0));
    CHECKS.thrown("swap(-1, 0)", Checks.INDEX, x, () -> x.swap(-1, 0));
    CHECKS.thrown("swap(0, -1)", Checks.INDEX, x, () -> x.swap(0, -1));
  }

  private static void meet() {
    Divisorwork x = new Divisorwork();
    x.know(0, 2);
    x.know(1, 10);
    due("meet(0, 1, 0, 2)", 120, () -> x.meet(0, 1, 0, 2));
    values("sum", x, 2, 2, 6, 12, 20);
    due("meet(0, 1, 1, 2)", 120, () -> x.meet(0, 1, 1, 2));
    values("less", x, 2, 0, -2, -6, -12);
    due("meet(1, 0, 1, 2)", 119, () -> x.meet(1, 0, 1, 2));
    values("less", x, 2, 0, 2, 6, 12);
    due("meet(0, 1, 2, 2)", 120, () -> x.meet(0, 1, 2, 2));
    values("product", x, 2, 1, 8, 27, 64);
    due("meet: house(0)", 6, () -> x.house(0));
    CHECKS.thrown("meet(-1, 0, 3, 0)", Checks.INDEX, x, () -> x.meet(-1, 0, 3, 0));
    CHECKS.thrown("meet(0, 4, 0, 0)", Checks.INDEX, x, () -> x.meet(0, 4, 0, 0));
    CHECKS.thrown("meet(0, 0, 3, 4)", Checks.INDEX, x, () -> x.meet(0, 0, 3, 4));
    CHECKS.thrown("meet(0, 0, 0, -1)", Checks.INDEX, x, () -> x.meet(0, 0, 0, -1));
    CHECKS.thrown("meet(0, 0, 3, 0)", Checks.ARGUMENT, x, () -> x.meet(0, 0, 3, 0));
    CHECKS.thrown("meet(0, 0, -1, 0)", Checks.ARGUMENT, x, () -> x.meet(0, 0, -1, 0));
  }

  private static void meetAtTheEdge() {
    Divisorwork x = new Divisorwork();
    x.putWide(0, 120, MAX, -1);
    x.putWide(1, 120, MIN, 0);
    due("2^63 - 1 and -2^63", 1, () -> x.meet(0, 1, 0, 2));
    values("their sum", x, 2, 0);
    due("their sum at 120", -1, () -> x.value(2, 120));
    refused("2^63 - 1 less -2^63", x, () -> x.meet(0, 1, 1, 2));
    refused("0 less -2^63", x, () -> x.meet(3, 1, 1, 3));
    due("-2^63 less 0", 1, () -> x.meet(1, 3, 1, 2));
    due("-2^63 less itself", 1, () -> x.meet(1, 1, 1, 2));
    x.put(3, 120, 1);
    refused("2^63 - 1 and 1", x, () -> x.meet(0, 3, 0, 2));
    refused("-2^63 less 1", x, () -> x.meet(1, 3, 1, 2));
    due("2^63 - 1 less 1", 1, () -> x.meet(0, 3, 1, 2));
    due("-2^63 by 1", 1, () -> x.meet(1, 3, 2, 2));
    due("1 by -2^63", 0, () -> x.meet(3, 1, 2, 2));
    x.put(3, 120, -1);
    refused("-2^63 by -1", x, () -> x.meet(1, 3, 2, 2));
    refused("-1 by -2^63", x, () -> x.meet(3, 1, 2, 2));
    refused("-2^63 and -1", x, () -> x.meet(1, 3, 0, 2));
    refused("2^63 - 1 less -1", x, () -> x.meet(0, 3, 1, 2));
    due("2^63 - 1 by -1", 1, () -> x.meet(0, 3, 2, 2));
    due("2^63 - 1 by -1 at 120", -Long.MAX_VALUE, () -> x.value(2, 120));
    x.putWide(0, 120, 1, 0);
    x.putWide(1, 120, 0, MIN);
    refused("2^32 by 2^31", x, () -> x.meet(0, 1, 2, 2));
    x.putWide(1, 120, -1, MIN);
    due("2^32 by -2^31", 1, () -> x.meet(0, 1, 2, 2));
    due("2^32 by -2^31 at 120", Long.MIN_VALUE, () -> x.value(2, 120));
    refused("2^32 by 2^32", x, () -> x.meet(0, 0, 2, 0));
  }

  private static void multiply() {
    Divisorwork x = new Divisorwork();
    x.know(0, 3);
    x.know(1, 2);
    due("multiply(0, 1, 2)", 120, () -> x.multiply(0, 1, 2));
    values("SIGN by n", x, 2, 1, 1, 2, 2, 4, 2, 6, 4, 6, 4, 10, 4);
    due("multiply(1, 0, 2)", 0, () -> x.multiply(1, 0, 2));
    x.put(3, 2, 5);
    due("multiply(1, 3, 2)", 120, () -> x.multiply(1, 3, 2));
    values("n by 5 at 2", x, 2, 0, 5, 0, 10, 0, 15, 0, 20);
    due("multiply(3, 3, 3)", 2, () -> x.multiply(3, 3, 3));
    values("5 at 2 by itself", x, 3, 0, 0, 0, 25, 0);
    due("multiply: house(0)", 7, () -> x.house(0));
    CHECKS.thrown("multiply(-1, 0, 0)", Checks.INDEX, x, () -> x.multiply(-1, 0, 0));
    CHECKS.thrown("multiply(0, 4, 0)", Checks.INDEX, x, () -> x.multiply(0, 4, 0));
    CHECKS.thrown("multiply(0, 0, 4)", Checks.INDEX, x, () -> x.multiply(0, 0, 4));
    CHECKS.thrown("multiply(0, -1, 0)", Checks.INDEX, x, () -> x.multiply(0, -1, 0));
    CHECKS.thrown("multiply(0, 0, -1)", Checks.INDEX, x, () -> x.multiply(0, 0, -1));
  }

  private static void multiplyBeyond() {
    Divisorwork x = new Divisorwork();
    // At 6 the sums are 2^63 - 1, then one too many on the way, though the last would bring it back.
    x.putWide(0, 1, MAX, -1);
    x.put(0, 2, 1);
    x.put(0, 3, -1);
    x.put(1, 6, 1);
    x.put(1, 3, 1);
    x.put(1, 2, 1);
    refused("a sum on the way", x, () -> x.multiply(0, 1, 2));
    x.put(0, 2, -1);
    x.put(0, 3, 1);
    due("no sum on the way", 7, () -> x.multiply(0, 1, 2));
    due("value(2, 6)", Long.MAX_VALUE, () -> x.value(2, 6));
    x.put(1, 1, 2);
    refused("a product on the way", x, () -> x.multiply(0, 1, 2));
  }

  private static void makeInverse() {
    Divisorwork x = new Divisorwork();
    x.know(0, 1);
    due("make(0, 0, 1)", 75, () -> x.make(0, 0, 1));
    values("INVERSE of 1", x, 1, 1, -1, -1, 0, -1, 1, -1, 0, 0, 1);
    x.know(0, 2);
    x.make(0, 4, 0);
    due("make(0, 0, 1) of -n", 75, () -> x.make(0, 0, 1));
    values("INVERSE of -n", x, 1, -1, 2, 3, 0, 5, -6, 7, 0, 0, -10);
    x.put(0, 1, 0);
    refused("INVERSE with 0 at 1", x, () -> x.make(0, 0, 1));
    x.put(0, 1, 2);
    refused("INVERSE with 2 at 1", x, () -> x.make(0, 0, 1));
    x.put(0, 1, -2);
    refused("INVERSE with -2 at 1", x, () -> x.make(0, 0, 1));
    x.putWide(0, 1, 1, 1);
    refused("INVERSE with 2^32 + 1 at 1", x, () -> x.make(0, 0, 1));
  }

  private static void makeInverseBeyond() {
    Divisorwork x = new Divisorwork();
    x.put(0, 1, 1);
    x.putWide(0, 61, MIN, 0);
    refused("-2^63 by -1", x, () -> x.make(0, 0, 1));
    x.put(0, 1, -1);
    refused("-2^63 by -1, on the way to s", x, () -> x.make(0, 0, 1));
    x.putWide(0, 61, MAX, -1);
    due("2^63 - 1 by -1, by 1", 2, () -> x.make(0, 0, 1));
    due("its INVERSE at 61", -Long.MAX_VALUE, () -> x.value(1, 61));
    x.put(0, 1, 1);
    x.putWide(0, 61, 0, 0);
    x.putWide(0, 7, 1073741824, 0);
    refused("2^62 by -2^62", x, () -> x.make(0, 0, 1));
    x.put(0, 7, 0);
    x.putWide(0, 11, 1073741824, 0);
    due("2^62 at 11 alone", 3, () -> x.make(0, 0, 1));
  }

  private static void makeSummedAndSigned() {
    Divisorwork x = new Divisorwork();
    x.know(0, 2);
    due("make(0, 1, 1)", 120, () -> x.make(0, 1, 1));
    values("SUMMED n", x, 1, 1, 3, 4, 7, 6, 12, 8, 15, 13, 18);
    due("make(0, 2, 1)", 119, () -> x.make(0, 2, 1));
    values("SIGNED n", x, 1, 1, 1, 2, 2, 4, 2, 6, 4, 6, 4);
    // At 6: F at 1 and at 2 leave the range, though F at 3 would bring it back.
    x.know(0, 0);
    x.putWide(0, 2, MAX, -1);
    x.put(0, 3, -5);
    refused("SUMMED beyond on the way", x, () -> x.make(0, 1, 1));
    x.put(0, 1, -1);
    due("SUMMED within", 120, () -> x.make(0, 1, 1));
    due("SUMMED at 6", Long.MAX_VALUE - 6, () -> x.value(1, 6));
    x.know(0, 0);
    x.put(0, 1, 0);
    x.putWide(0, 60, MIN, 0);
    refused("SIGNED: -1 by -2^63 at 120", x, () -> x.make(0, 2, 1));
    x.put(0, 60, 0);
    x.putWide(0, 61, MIN, 0);
    due("SIGNED: 1 by -2^63", 120, () -> x.make(0, 2, 1));
    due("SIGNED at 61", Long.MIN_VALUE, () -> x.value(1, 61));
    x.put(0, 61, 0);
    x.putWide(0, 30, MIN, 0);
    refused("SIGNED: -1 by -2^63 at 60", x, () -> x.make(0, 2, 1));
    x.put(0, 30, 0);
    x.putWide(0, 60, MAX, -1);
    x.put(0, 120, -2);
    refused("SIGNED: -2, then 2^63 - 1 off", x, () -> x.make(0, 2, 1));
    x.put(0, 120, -1);
    due("SIGNED: -1, then 2^63 - 1 off", 3, () -> x.make(0, 2, 1));
    due("SIGNED at 120", Long.MIN_VALUE, () -> x.value(1, 120));
  }

  private static void makeByPrimes() {
    Divisorwork x = new Divisorwork();
    x.know(0, 2);
    x.put(0, 1, 77);
    x.put(0, 6, 77);
    x.put(0, 8, 5);
    due("make(0, 3, 1)", 120, () -> x.make(0, 3, 1));
    values("BY PRIMES", x, 1, 1, 2, 3, 4, 5, 6, 7, 5, 9, 10, 11, 12);
    due("BY PRIMES at 120", 75, () -> x.value(1, 120));
    due("BY PRIMES at 16", 16, () -> x.value(1, 16));
    x.putWide(0, 4, 1073741824, 0);
    x.put(0, 3, 2);
    refused("BY PRIMES: 2^62 by 2 at 12", x, () -> x.make(0, 3, 1));
    x.know(0, 0);
    x.know(1, 0);
    x.putWide(0, 4, 1073741824, 0);
    x.put(0, 3, -2);
    due("BY PRIMES: 2^62 by -2 at 12", 3, () -> x.make(0, 3, 1));
    due("BY PRIMES at 12", Long.MIN_VALUE, () -> x.value(1, 12));
    x.know(0, 1);
    x.putWide(0, 64, MIN, 0);
    due("BY PRIMES with -2^63 at 64", 119, () -> x.make(0, 3, 1));
    due("BY PRIMES at 64", Long.MIN_VALUE, () -> x.value(1, 64));
  }

  private static void makeTurnedAndByPlace() {
    Divisorwork x = new Divisorwork();
    x.know(0, 3);
    due("make(0, 4, 1)", 75, () -> x.make(0, 4, 1));
    values("turned", x, 1, -1, 1, 1, 0, 1, -1);
    due("make(0, 5, 1)", 75, () -> x.make(0, 5, 1));
    values("by n", x, 1, 1, -2, -3, 0, -5, 6);
    x.putWide(0, 120, MIN, 0);
    refused("-2^63 turned", x, () -> x.make(0, 4, 1));
    refused("-2^63 by 120", x, () -> x.make(0, 5, 1));
    x.put(0, 120, 0);
    x.putWide(0, 2, -1073741824, 0);
    due("-2^62 by 2", 1, () -> x.make(0, 5, 1));
    due("-2^62 by 2 at 2", Long.MIN_VALUE, () -> x.value(1, 2));
    x.putWide(0, 2, 1073741824, 0);
    refused("2^62 by 2", x, () -> x.make(0, 5, 1));
    x.putWide(0, 2, MAX, -1);
    due("2^63 - 1 turned", 75, () -> x.make(0, 4, 1));
  }

  private static void makeWrong() {
    Divisorwork x = new Divisorwork();
    CHECKS.thrown("make(-1, 0, 0)", Checks.INDEX, x, () -> x.make(-1, 0, 0));
    CHECKS.thrown("make(4, 6, 0)", Checks.INDEX, x, () -> x.make(4, 6, 0));
    CHECKS.thrown("make(0, 6, 4)", Checks.INDEX, x, () -> x.make(0, 6, 4));
    CHECKS.thrown("make(0, 0, -1)", Checks.INDEX, x, () -> x.make(0, 0, -1));
    CHECKS.thrown("make(0, 6, 0)", Checks.ARGUMENT, x, () -> x.make(0, 6, 0));
    CHECKS.thrown("make(0, -1, 0)", Checks.ARGUMENT, x, () -> x.make(0, -1, 0));
    refused("make(0, 0, 0) of 0", x, () -> x.make(0, 0, 0));
  }

  /** A FUNCTION that becomes what is made of itself: only its values before count. */
  private static void intoItself() {
    Divisorwork x = new Divisorwork();
    for (int what = 0; what <= 5; what++) {
      int made = what;
      x.know(0, 6);
      x.make(0, made, 1);
      int unlike = x.swap(0, 1);
      x.swap(0, 1);
      due("make(0, " + made + ", 0)", unlike, () -> x.make(0, made, 0));
      due("make(0, " + made + ", 0) as into another", -1, () -> x.differ(0, 1));
    }
    x.know(0, 6);
    x.know(1, 4);
    x.multiply(0, 1, 2);
    x.copy(0, 3);
    x.multiply(3, 1, 3);
    due("multiply into the one", -1, () -> x.differ(2, 3));
    x.multiply(0, 1, 1);
    due("multiply into the other one", -1, () -> x.differ(1, 2));
    x.know(1, 4);
    x.meet(0, 1, 1, 2);
    x.meet(0, 1, 1, 1);
    due("meet into the other one", -1, () -> x.differ(1, 2));
  }
}
