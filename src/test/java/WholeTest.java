/** Promises 28 to 31: house, knock, isSound and digest. */
public final class WholeTest {
  private static final Checks CHECKS = new Checks();
  private static final int MAX = Integer.MAX_VALUE;

  public static void main(String[] args) {
    house();
    sound();
    digest();
    CHECKS.end();
  }

  private static void due(String what, Object want, Checks.Call call) {
    CHECKS.due(what, want, call);
  }

  private static void house() {
    Divisorwork x = new Divisorwork();
    due("knock", 1, x::knock);
    due("knock again", 2, x::knock);
    due("house(0): a knock is no act", 0, () -> x.house(0));
    due("house(2)", 2, () -> x.house(2));
    x.know(0, 2);
    x.put(0, 1, 1);
    x.putWide(0, 2, 0, 2);
    x.sow(1, 1, 1);
    x.copy(0, 0);
    x.swap(1, 1);
    x.meet(0, 1, 0, 2);
    x.multiply(0, 1, 2);
    x.make(0, 4, 3);
    due("house(0) after nine acts", 9, () -> x.house(0));
    due("house(1) after nine acts", 0, () -> x.house(1));
    x.putWide(3, 1, MAX, -1);
    due("a sum beyond", -9, () -> x.meet(3, 0, 0, 2));
    due("a PRODUCT beyond", -9, () -> x.multiply(3, 0, 2));
    due("no INVERSE", -9, () -> x.make(3, 0, 2));
    due("house(0) after three REFUSED ones", 10, () -> x.house(0));
    due("house(1) after three REFUSED ones", 3, () -> x.house(1));
    due("house(2) at the end", 2, () -> x.house(2));
    for (int what : new int[] {-1, 3, Integer.MIN_VALUE, MAX}) {
      CHECKS.thrown("house(" + what + ")", Checks.ARGUMENT, x, () -> x.house(what));
    }
  }

  private static void sound() {
    Divisorwork x = new Divisorwork();
    due("isSound of a new object", true, x::isSound);
    for (int which = 0; which <= 10; which++) {
      x.know(0, which);
      x.know(1, 10 - which);
      due("isSound of KNOWN " + which, true, x::isSound);
      x.sow(0, which * 77, 500);
      due("isSound of sown ones", true, x::isSound);
      x.putWide(which % 2, which + 1, 1073741824 * (1 + which % 3), which);
      due("isSound of wide ones", true, x::isSound);
    }
    x.know(0, 0);
    x.putWide(0, 8, Integer.MIN_VALUE, 0);
    x.put(0, 11, -1);
    x.putWide(0, 88, Integer.MIN_VALUE, 0);
    due("isSound where -2^63 by -1 is not LET", true, x::isSound);
  }

  private static void digest() {
    Divisorwork x = new Divisorwork();
    due("digest of a new object", reckoned(x), x::digest);
    // 8027 by 31^484, and 1 for isSound.
    long d = 8027;
    for (int i = 0; i < 484; i++) {
      d *= 31;
    }
    due("digest of a new object by hand", d + 1, x::digest);
    x.know(0, 10);
    x.sow(1, 17, 500);
    x.putWide(2, 120, -5, 7);
    x.putWide(3, 1, Integer.MIN_VALUE, 0);
    x.make(3, 4, 3);
    x.knock();
    x.knock();
    x.knock();
    due("digest", reckoned(x), x::digest);
    due("digest again", reckoned(x), x::digest);
    long before = x.digest();
    x.isSound();
    x.house(0);
    x.tau(720, 2);
    x.powers(720);
    due("digest after asking", before, x::digest);
  }

  private static long reckoned(Divisorwork x) {
    long d = 8027;
    for (int f = 0; f < 4; f++) {
      for (int n = 1; n <= 120; n++) {
        d = d * 31 + Long.parseLong(x.value(f, n));
      }
    }
    for (int what = 0; what <= 2; what++) {
      d = d * 31 + x.house(what);
    }
    return d * 31 + 1;
  }
}
