/**
 * A FUNCTION that is 0 everywhere, by each act and in each thing asked; and acts whose FUNCTION is one of
 * those it is made of: only the values before count, as if it were another one.
 */
public final class ZeroAndSameTest {
  private static final Checks CHECKS = new Checks();

  public static void main(String[] args) {
    actsOfZero();
    askedOfZero();
    wholeOfZero();
    meetIntoTheSame();
    multiplyIntoTheSame();
    makeIntoTheSame();
    copyAndSwapTheSame();
    refusedIntoTheSame();
    askedOfTheSame();
    CHECKS.end();
  }

  private static void due(String what, Object want, Checks.Call call) {
    CHECKS.due(what, want, call);
  }

  /** Function 1 is 0 everywhere, 0 is n at n; what comes of 1 goes into 2, which is 1 everywhere before. */
  private static Divisorwork besideZero() {
    Divisorwork x = new Divisorwork();
    x.know(0, 2);
    x.know(2, 1);
    return x;
  }

  private static void becomesZero(String what, Divisorwork x, Checks.Call call) {
    due(what, 120, call);
    due(what + " is 0 everywhere", -1, () -> x.differ(2, 1));
    due(what + ", once more", 0, call);
  }

  private static void actsOfZero() {
    Divisorwork x = besideZero();
    becomesZero("0 copied", x, () -> x.copy(1, 2));
    x.know(2, 1);
    becomesZero("0 and 0", x, () -> x.meet(1, 1, 0, 2));
    x.know(2, 1);
    becomesZero("0 less 0", x, () -> x.meet(1, 1, 1, 2));
    x.know(2, 1);
    becomesZero("0 by n", x, () -> x.meet(1, 0, 2, 2));
    x.know(2, 1);
    becomesZero("n by 0", x, () -> x.meet(0, 1, 2, 2));
    x.know(2, 1);
    becomesZero("the PRODUCT of 0 and n", x, () -> x.multiply(1, 0, 2));
    x.know(2, 1);
    becomesZero("the PRODUCT of n and 0", x, () -> x.multiply(0, 1, 2));
    x.know(2, 1);
    becomesZero("0 SUMMED", x, () -> x.make(1, 1, 2));
    x.know(2, 1);
    becomesZero("0 SIGNED", x, () -> x.make(1, 2, 2));
    x.know(2, 1);
    becomesZero("0 turned", x, () -> x.make(1, 4, 2));
    x.know(2, 1);
    becomesZero("0 by its n", x, () -> x.make(1, 5, 2));
    x.know(2, 1);
    CHECKS.refused("the INVERSE of 0", x, () -> x.make(1, 0, 2));
    // The one BY PRIMES is the product of 1 and of nothing at 1, so it is UNIT.
    due("0 BY PRIMES", 119, () -> x.make(1, 3, 2));
    CHECKS.values("0 BY PRIMES", x, 2, 1, 0, 0, 0, 0, 0);
    due("0 BY PRIMES is UNIT", 0, () -> x.know(2, 0));
    due("0 and n", 119, () -> x.meet(1, 0, 0, 2));
    due("0 less n", 120, () -> x.meet(1, 0, 1, 2));
    due("n less 0", 120, () -> x.meet(0, 1, 1, 2));
    due("n and 0 are n", -1, () -> x.differ(0, 2));
    due("0 for n", 120, () -> x.swap(0, 1));
    due("n is where 0 was", -1, () -> x.differ(1, 2));
    due("0 is where n was", "0", () -> x.value(0, 120));
    due("sown by 0", 120, () -> x.sow(1, 65535, 0));
    due("sown by 0 it is 0", -1, () -> x.differ(0, 1));
  }

  private static void askedOfZero() {
    Divisorwork x = besideZero();
    for (int place : new int[] {1, 2, 60, 119, 120}) {
      due("0: value at " + place, "0", () -> x.value(1, place));
      due("0: first half at " + place, 0, () -> x.half(1, place, true));
      due("0: last half at " + place, 0, () -> x.half(1, place, false));
    }
    for (int i = 0; i <= 3; i++) {
      int what = i;
      due("0: is " + what, false, () -> x.is(1, what));
    }
    due("0 and another 0", -1, () -> x.differ(1, 3));
    due("0 and n", 1, () -> x.differ(1, 0));
    for (int place : new int[] {0, 1, 120}) {
      due("0: total up to " + place, "0", () -> x.total(1, place));
    }
    for (int i = 0; i <= 2; i++) {
      int how = i;
      for (int place : new int[] {1, 2, 120}) {
        due("0 and n: totalOfProduct up to " + place, "0", () -> x.totalOfProduct(1, 0, place, how));
        due("n and 0: totalOfProduct up to " + place, "0", () -> x.totalOfProduct(0, 1, place, how));
        due("0 and 0: totalOfProduct up to " + place, "0", () -> x.totalOfProduct(1, 3, place, how));
      }
    }
    for (int i = 1; i <= 6; i++) {
      int size = i;
      due("0: determinant 0 of " + size, "0", () -> x.determinant(1, size, 0));
      due("0: determinant 1 of " + size, "0", () -> x.determinant(1, size, 1));
    }
  }

  private static void wholeOfZero() {
    Divisorwork x = new Divisorwork();
    due("all 0: isSound", true, x::isSound);
    due("all 0: house", "0 0 0", () -> x.house(0) + " " + x.house(1) + " " + x.house(2));
    due("all 0: put 0", 0, () -> x.put(3, 120, 0));
    due("all 0: putWide 0", 0, () -> x.putWide(3, 120, 0, 0));
    due("all 0: sow 0", 120, () -> x.sow(0, 0, 0));
    due("all 0: isSound still", true, x::isSound);
  }

  /** The same call into function 3 first, then into one that it is made of; both must come to be the same. */
  private static void intoTheSame(String what, int known0, int known1, int into, Into call) {
    Divisorwork x = new Divisorwork();
    x.know(0, known0);
    x.know(1, known1);
    x.copy(into, 3);
    due(what + ", both ways tell how many are others", Checks.told(() -> call.into(x, 3)), () -> call.into(x, into));
    due(what + ", both ways make the same", -1, () -> x.differ(into, 3));
    due(what + ", five acts", "5 0", () -> x.house(0) + " " + x.house(1));
    Divisorwork y = new Divisorwork();
    y.know(1 - into, 1 - into == 0 ? known0 : known1);
    due(what + ": the other one stays", y.total(1 - into, 120), () -> x.total(1 - into, 120));
  }

  private interface Into {
    int into(Divisorwork x, int function);
  }

  private static void meetIntoTheSame() {
    for (int i = 0; i <= 2; i++) {
      int what = i;
      for (int into = 0; into <= 1; into++) {
        intoTheSame("meet " + what + " of 0 and 1 into " + into, 2, 5, into, (x, f) -> x.meet(0, 1, what, f));
        intoTheSame("meet " + what + " of 1 and 0 into " + into, 2, 5, into, (x, f) -> x.meet(1, 0, what, f));
        intoTheSame("meet " + what + " of 0 and 0 into " + into, 2, 5, into, (x, f) -> x.meet(0, 0, what, f));
      }
    }
    Divisorwork x = new Divisorwork();
    x.know(0, 2);
    due("n and n into itself", 120, () -> x.meet(0, 0, 0, 0));
    CHECKS.values("n and n into itself", x, 0, 2, 4, 6, 8);
    x.know(0, 2);
    due("n by n into itself", 119, () -> x.meet(0, 0, 2, 0));
    CHECKS.values("n by n into itself", x, 0, 1, 4, 9, 16);
    due("n by n less itself", 120, () -> x.meet(0, 0, 1, 0));
    CHECKS.values("n by n less itself", x, 0, 0, 0, 0, 0);
  }

  private static void multiplyIntoTheSame() {
    for (int into = 0; into <= 1; into++) {
      intoTheSame("multiply 0 and 1 into " + into, 2, 5, into, (x, f) -> x.multiply(0, 1, f));
      intoTheSame("multiply 1 and 0 into " + into, 2, 5, into, (x, f) -> x.multiply(1, 0, f));
      intoTheSame("multiply 0 and 0 into " + into, 2, 5, into, (x, f) -> x.multiply(0, 0, f));
    }
    Divisorwork x = new Divisorwork();
    x.know(0, 1);
    due("1 by 1 into itself", 119, () -> x.multiply(0, 0, 0));
    due("1 by 1 into itself is TAU", 0, () -> x.know(0, 5));
    x.know(0, 3);
    x.know(1, 1);
    due("SIGN by 1 into SIGN", 74, () -> x.multiply(0, 1, 0));
    due("SIGN by 1 into SIGN is UNIT", 0, () -> x.know(0, 0));
    x.know(0, 3);
    x.multiply(0, 1, 1);
    due("SIGN by 1 into 1 is UNIT", 0, () -> x.know(1, 0));
  }

  private static void makeIntoTheSame() {
    for (int i = 0; i <= 5; i++) {
      int what = i;
      intoTheSame("make " + what + " of 0 into itself", 6, 5, 0, (x, f) -> x.make(0, what, f));
      intoTheSame("make " + what + " of 1 into itself", 6, 5, 1, (x, f) -> x.make(1, what, f));
    }
    Divisorwork x = new Divisorwork();
    x.know(0, 1);
    due("the INVERSE of 1 into itself", 84, () -> x.make(0, 0, 0));
    due("the INVERSE of 1 into itself is the SIGN", 0, () -> x.know(0, 3));
    x.know(0, 4);
    x.make(0, 1, 0);
    due("PHI SUMMED into itself is n", 0, () -> x.know(0, 2));
    x.make(0, 2, 0);
    due("n SIGNED into itself is PHI", 0, () -> x.know(0, 4));
    due("PHI BY PRIMES into itself", 0, () -> x.make(0, 3, 0));
    x.know(0, 2);
    due("n turned into itself", 120, () -> x.make(0, 4, 0));
    due("n turned into itself, at 120", "-120", () -> x.value(0, 120));
    due("n turned twice", 120, () -> x.make(0, 4, 0));
    due("n turned twice is n", 0, () -> x.know(0, 2));
    due("n by n into itself", 119, () -> x.make(0, 5, 0));
    due("n by n into itself is n * n", 0, () -> x.know(0, 10));
  }

  private static void copyAndSwapTheSame() {
    Divisorwork x = new Divisorwork();
    x.sow(2, 99, 500);
    String before = x.total(2, 120);
    due("copy(2, 2)", 0, () -> x.copy(2, 2));
    due("swap(2, 2)", 0, () -> x.swap(2, 2));
    due("both keep it", before, () -> x.total(2, 120));
    due("both are acts", 3, () -> x.house(0));
  }

  private static void refusedIntoTheSame() {
    Divisorwork x = new Divisorwork();
    x.know(0, 2);
    x.know(1, 1);
    Checks.putLong(x, 0, 120, Long.MAX_VALUE);
    x.put(1, 120, 2);
    x.put(2, 120, -2);
    for (int i = 0; i <= 2; i++) {
      int into = i;
      CHECKS.refused("a sum into " + into, x, () -> x.meet(0, 1, 0, into));
      CHECKS.refused("the one less the other into " + into, x, () -> x.meet(2, 0, 1, into));
      CHECKS.refused("a product into " + into, x, () -> x.meet(0, 1, 2, into));
      CHECKS.refused("a PRODUCT into " + into, x, () -> x.multiply(0, 1, into));
      CHECKS.refused("a PRODUCT the other way into " + into, x, () -> x.multiply(1, 0, into));
      CHECKS.refused("the sum with itself into " + into, x, () -> x.meet(0, 0, 0, into));
      CHECKS.refused("the PRODUCT with itself into " + into, x, () -> x.multiply(0, 0, into));
    }
    due("the one stays", Long.MAX_VALUE, () -> x.value(0, 120));
    due("the other one stays", "2", () -> x.value(1, 120));
    for (int i = 0; i <= 5; i++) {
      int what = i;
      int place = what == 3 ? 40 : 120;
      // n with -2^63 at 120, for SUMMED with 2^63 - 1 there, and for BY PRIMES with 2^63 - 1 at 8.
      x.know(0, 2);
      Checks.putLong(x, 0, what == 3 ? 8 : 120, what == 1 || what == 3 ? Long.MAX_VALUE : Long.MIN_VALUE);
      String before = x.value(0, place);
      CHECKS.refused("make " + what + " into itself", x, () -> x.make(0, what, 0));
      due("make " + what + " into itself: it stays", before, () -> x.value(0, place));
    }
  }

  private static void askedOfTheSame() {
    Divisorwork x = new Divisorwork();
    x.know(3, 1);
    due("differ(3, 3)", -1, () -> x.differ(3, 3));
    for (int i = 0; i <= 2; i++) {
      int how = i;
      // The PRODUCT of 1 and 1 is TAU; up to 6 that is 1 + 2 + 2 + 3 + 2 + 4.
      due("totalOfProduct(3, 3, 6, " + how + ")", "14", () -> x.totalOfProduct(3, 3, 6, how));
      due("totalOfProduct(3, 3, 1, " + how + ")", "1", () -> x.totalOfProduct(3, 3, 1, how));
    }
    due("asking keeps it", 0, () -> x.know(3, 1));
  }
}
