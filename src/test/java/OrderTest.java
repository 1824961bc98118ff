/**
 * "If several exceptions apply, the one that is named first is thrown; exceptions go ahead of REFUSED", and
 * what house() tells before and after each kind of call.
 */
public final class OrderTest {
  private static final Checks CHECKS = new Checks();
  private static final String INDEX = Checks.INDEX;
  private static final String ARGUMENT = Checks.ARGUMENT;
  private static final String STATE = Checks.STATE;
  private static final int MAX = Integer.MAX_VALUE;
  private static final int[] NO_FUNCTIONS = {-1, 4, Integer.MIN_VALUE, MAX};

  public static void main(String[] args) {
    indexAheadOfArgument();
    indexAheadOfState();
    argumentAheadOfState();
    indexAheadOfRefused();
    argumentAheadOfRefused();
    houseAfterActs();
    houseAfterRefused();
    houseAfterThrown();
    houseAfterAsking();
    CHECKS.end();
  }

  private static void thrown(String what, String want, Divisorwork x, Checks.Call call) {
    int acts = x.house(0);
    int refusals = x.house(1);
    int knocks = x.house(2);
    CHECKS.thrown(what, want, x, call);
    CHECKS.due(what + ": house(0) as before", acts, () -> x.house(0));
    CHECKS.due(what + ": house(1) as before", refusals, () -> x.house(1));
    CHECKS.due(what + ": house(2) as before", knocks, () -> x.house(2));
  }

  /** Function 0 is 2^63 - 1 everywhere: almost all that is made of it is REFUSED, and no total is LET. */
  private static Divisorwork great() {
    Divisorwork x = new Divisorwork();
    x.know(0, 1);
    for (int i = 0; i < 62; i++) {
      x.meet(0, 0, 0, 0);
    }
    x.know(1, 1);
    x.meet(0, 1, 1, 2);
    x.meet(0, 2, 0, 0);
    CHECKS.due("great: value(0, 120)", Long.MAX_VALUE, () -> x.value(0, 120));
    x.knock();
    x.multiply(0, 0, 3);
    return x;
  }

  private static void indexAheadOfArgument() {
    for (int no : NO_FUNCTIONS) {
      Divisorwork x = great();
      String of = " of function " + no;
      thrown("know" + of, INDEX, x, () -> x.know(no, 11));
      thrown("put" + of, INDEX, x, () -> x.put(no, 0, 1));
      thrown("putWide" + of, INDEX, x, () -> x.putWide(no, 121, 1, 1));
      thrown("sow, seed" + of, INDEX, x, () -> x.sow(no, 65536, 0));
      thrown("sow, wide" + of, INDEX, x, () -> x.sow(no, 0, 501));
      thrown("sow, both" + of, INDEX, x, () -> x.sow(no, -1, -1));
      thrown("meet, one" + of, INDEX, x, () -> x.meet(no, 0, 3, 0));
      thrown("meet, other" + of, INDEX, x, () -> x.meet(0, no, -1, 0));
      thrown("meet, into" + of, INDEX, x, () -> x.meet(0, 0, 3, no));
      thrown("make, function" + of, INDEX, x, () -> x.make(no, 6, 0));
      thrown("make, into" + of, INDEX, x, () -> x.make(0, -1, no));
      thrown("value" + of, INDEX, x, () -> x.value(no, 0));
      thrown("half" + of, INDEX, x, () -> x.half(no, 121, true));
      thrown("is" + of, INDEX, x, () -> x.is(no, 4));
    }
    for (int no : NO_FUNCTIONS) {
      Divisorwork x = great();
      String of = " of function " + no;
      thrown("total" + of, INDEX, x, () -> x.total(no, 121));
      thrown("totalOfProduct, one, n" + of, INDEX, x, () -> x.totalOfProduct(no, 1, 0, 0));
      thrown("totalOfProduct, one, how" + of, INDEX, x, () -> x.totalOfProduct(no, 1, 1, 3));
      thrown("totalOfProduct, other, n" + of, INDEX, x, () -> x.totalOfProduct(1, no, 121, 0));
      thrown("totalOfProduct, other, how" + of, INDEX, x, () -> x.totalOfProduct(1, no, 1, -1));
      thrown("determinant, size" + of, INDEX, x, () -> x.determinant(no, 7, 0));
      thrown("determinant, how" + of, INDEX, x, () -> x.determinant(no, 1, 2));
    }
  }

  private static void indexAheadOfState() {
    for (int no : NO_FUNCTIONS) {
      Divisorwork x = great();
      thrown("totalOfProduct of great, " + no, INDEX, x, () -> x.totalOfProduct(0, no, 120, 0));
      thrown("totalOfProduct of " + no + ", great", INDEX, x, () -> x.totalOfProduct(no, 0, 120, 0));
      thrown("totalOfProduct of great, " + no + ", all wrong", INDEX, x, () -> x.totalOfProduct(0, no, 121, 3));
    }
  }

  private static void argumentAheadOfState() {
    Divisorwork x = great();
    thrown("total of great", STATE, x, () -> x.total(0, 120));
    thrown("total of great up to 121", ARGUMENT, x, () -> x.total(0, 121));
    thrown("total of great up to -1", ARGUMENT, x, () -> x.total(0, -1));
    thrown("total of great up to MAX", ARGUMENT, x, () -> x.total(0, MAX));
    for (int how = 0; how <= 2; how++) {
      int way = how;
      thrown("totalOfProduct of great, how " + how, STATE, x, () -> x.totalOfProduct(0, 1, 120, way));
      thrown("totalOfProduct up to 0, how " + how, ARGUMENT, x, () -> x.totalOfProduct(0, 1, 0, way));
      thrown("totalOfProduct up to 121, how " + how, ARGUMENT, x, () -> x.totalOfProduct(1, 0, 121, way));
    }
    thrown("totalOfProduct, how 3", ARGUMENT, x, () -> x.totalOfProduct(0, 1, 120, 3));
    thrown("totalOfProduct, how -1", ARGUMENT, x, () -> x.totalOfProduct(1, 0, 120, -1));
    for (int how = 0; how <= 1; how++) {
      int way = how;
      thrown("determinant of great, how " + how, STATE, x, () -> x.determinant(0, 1, way));
      thrown("determinant of size 0, how " + how, ARGUMENT, x, () -> x.determinant(0, 0, way));
      thrown("determinant of size 7, how " + how, ARGUMENT, x, () -> x.determinant(0, 7, way));
    }
    thrown("determinant, how 2", ARGUMENT, x, () -> x.determinant(0, 1, 2));
    thrown("determinant, how -1", ARGUMENT, x, () -> x.determinant(0, 6, -1));
  }

  private static void indexAheadOfRefused() {
    for (int no : NO_FUNCTIONS) {
      Divisorwork x = great();
      thrown("meet of great into " + no, INDEX, x, () -> x.meet(0, 0, 0, no));
      thrown("meet of great and " + no, INDEX, x, () -> x.meet(0, no, 2, 0));
      thrown("multiply of great into " + no, INDEX, x, () -> x.multiply(0, 0, no));
      thrown("multiply of great by " + no, INDEX, x, () -> x.multiply(0, no, 0));
      thrown("multiply of " + no + " by great", INDEX, x, () -> x.multiply(no, 0, 0));
      for (int what = 0; what <= 5; what++) {
        int made = what;
        thrown("make " + what + " of great into " + no, INDEX, x, () -> x.make(0, made, no));
      }
      CHECKS.refused("but into itself", x, () -> x.meet(0, 0, 0, 0));
    }
  }

  private static void argumentAheadOfRefused() {
    Divisorwork x = great();
    thrown("meet of great, what 3", ARGUMENT, x, () -> x.meet(0, 0, 3, 0));
    thrown("meet of great, what -1", ARGUMENT, x, () -> x.meet(0, 0, -1, 0));
    thrown("make of great, what 6", ARGUMENT, x, () -> x.make(0, 6, 0));
    thrown("make of great, what -1", ARGUMENT, x, () -> x.make(0, -1, 0));
    CHECKS.refused("but what 0", x, () -> x.make(0, 0, 0));
  }

  private static String houses(Divisorwork x) {
    return x.house(0) + " " + x.house(1) + " " + x.house(2);
  }

  /** Each act counts, one that changes nothing, too; a knock is none. */
  private static void houseAfterActs() {
    Divisorwork x = new Divisorwork();
    Checks.Call[] acts = {
      () -> x.put(0, 1, 0), () -> x.putWide(3, 120, 0, 0), () -> x.sow(1, 0, 0), () -> x.copy(0, 0),
      () -> x.copy(0, 1), () -> x.swap(0, 0), () -> x.swap(0, 1), () -> x.meet(0, 1, 0, 2), () -> x.meet(0, 1, 1, 2),
      () -> x.meet(0, 1, 2, 2), () -> x.multiply(0, 0, 0), () -> x.know(3, 0), () -> x.make(3, 0, 3),
      () -> x.make(0, 1, 0), () -> x.make(0, 2, 0), () -> x.make(3, 3, 3), () -> x.make(0, 4, 0), () -> x.make(0, 5, 0),
    };
    CHECKS.due("house() before all acts", "0 0 0", () -> houses(x));
    for (int i = 0; i < acts.length; i++) {
      // know(3, 0) alone changes a value.
      CHECKS.due("act " + i, i == 11 ? 1 : i == 2 ? 120 : 0, acts[i]);
      CHECKS.due("house() after act " + i, (i + 1) + " 0 0", () -> houses(x));
    }
    CHECKS.due("a knock", 1, x::knock);
    CHECKS.due("house() after the knock", acts.length + " 0 1", () -> houses(x));
  }

  private static void houseAfterRefused() {
    Divisorwork x = great();
    x.make(0, 4, 3);
    x.meet(3, 1, 1, 3);
    CHECKS.due("-2^63 at 3", Long.MIN_VALUE, () -> x.value(3, 1));
    CHECKS.due("house() before", "68 1 1", () -> houses(x));
    Checks.Call[] refused = {
      () -> x.meet(0, 1, 0, 2), () -> x.meet(0, 3, 1, 2), () -> x.meet(0, 3, 2, 2), () -> x.multiply(0, 1, 1),
      () -> x.make(0, 0, 1), () -> x.make(0, 1, 1), () -> x.make(3, 2, 1), () -> x.make(0, 3, 1),
      () -> x.make(3, 4, 1), () -> x.make(0, 5, 1),
    };
    for (int i = 0; i < refused.length; i++) {
      CHECKS.refused("REFUSED " + i, x, refused[i]);
      CHECKS.due("house() after REFUSED " + i, "68 " + (i + 2) + " 1", () -> houses(x));
    }
    CHECKS.due("an act after them", 0, () -> x.copy(1, 1));
    CHECKS.due("house() after that", "69 11 1", () -> houses(x));
  }

  /** An act, a REFUSED one and a knock go on counting behind calls that throw. */
  private static void houseAfterThrown() {
    Divisorwork x = great();
    String before = houses(x);
    CHECKS.due("house() before", "66 1 1", () -> before);
    Checks.Call[] all = {
      () -> x.know(4, 0), () -> x.know(0, 11), () -> x.put(4, 1, 1), () -> x.put(1, 121, 1),
      () -> x.putWide(-1, 1, 1, 1), () -> x.putWide(1, 0, 1, 1), () -> x.sow(4, 1, 1), () -> x.sow(1, 65536, 1),
      () -> x.copy(0, 4), () -> x.swap(4, 0), () -> x.meet(0, 0, 0, 4), () -> x.meet(0, 0, 3, 0),
      () -> x.multiply(0, 0, 4), () -> x.make(0, 0, 4), () -> x.make(0, 6, 0), () -> x.value(0, 121),
      () -> x.half(0, 121, true), () -> x.differ(0, 4), () -> x.is(0, 4), () -> x.total(0, 120),
      () -> x.totalOfProduct(0, 0, 1, 0), () -> x.determinant(0, 1, 0), () -> x.tau(0, 0), () -> x.sigma(0, 0),
      () -> x.phi(0, 0), () -> x.sign(0, 0), () -> x.square(0, 0), () -> x.squareless(0, 0), () -> x.apart(121, 0),
      () -> x.shared(0, 1, true), () -> x.divisor(1, -1), () -> x.powers(0), () -> x.house(3),
    };
    for (int i = 0; i < all.length; i++) {
      Checks.Call call = all[i];
      CHECKS.due("call " + i + " throws", true, () -> Checks.told(call).startsWith("throws."));
      CHECKS.due("house() after call " + i, before, () -> houses(x));
    }
    x.put(2, 1, 1);
    x.meet(0, 0, 0, 0);
    x.knock();
    CHECKS.due("house() after one of each", "67 2 2", () -> houses(x));
  }

  /** What is no act counts nowhere, not even if it tells that something would go BEYOND or is not there. */
  private static void houseAfterAsking() {
    Divisorwork x = great();
    String before = houses(x);
    long digest = x.digest();
    Checks.Call[] all = {
      () -> x.value(0, 1), () -> x.half(0, 1, true), () -> x.differ(0, 0), () -> x.differ(0, 1), () -> x.is(0, 0),
      () -> x.is(0, 1), () -> x.is(0, 2), () -> x.is(0, 3), () -> x.is(1, 3), () -> x.total(0, 0), () -> x.total(0, 1),
      () -> x.totalOfProduct(1, 1, 120, 2), () -> x.determinant(1, 6, 0), () -> x.determinant(1, 6, 1),
      () -> x.tau(999, 2), () -> x.sigma(999, 1), () -> x.phi(999, 2), () -> x.sign(999, 1), () -> x.square(999, 1),
      () -> x.squareless(999, 1), () -> x.apart(120, 2), () -> x.shared(999, 998, true), () -> x.divisor(1, 1),
      () -> x.powers(1), () -> x.house(2), x::isSound, x::digest,
    };
    for (int i = 0; i < all.length; i++) {
      Checks.Call call = all[i];
      CHECKS.due("asking " + i + " answers", false, () -> Checks.told(call).startsWith("throws."));
      CHECKS.due("house() after asking " + i, before, () -> houses(x));
    }
    CHECKS.due("digest after asking", digest, x::digest);
  }
}
