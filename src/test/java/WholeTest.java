/** Promises 28 to 31: house, knock, isSound and digest. */
public final class WholeTest {
  private static final Checks CHECKS = new Checks();
  private static final int MAX = Integer.MAX_VALUE;

  public static void main(String[] args) {
    house();
    sound();
    digest();
    digestWraps();
    digestCountsHouse();
    knocks();
    lastCalls();
    CHECKS.end();
  }

  private static void due(String what, Object want, Checks.Call call) {
    CHECKS.due(what, want, call);
  }

  private static void house() {
    Divisorwork x = new Divisorwork();
    due("knock", 1, x::knock);
    due("knock again", 2, x::knock);
    due("house(0): a knock is no act", 0, () -> x.house(0));
    due("house(2)", 2, () -> x.house(2));
    x.know(0, 2);
    x.put(0, 1, 1);
    x.putWide(0, 2, 0, 2);
    x.sow(1, 1, 1);
    x.copy(0, 0);
    x.swap(1, 1);
    x.meet(0, 1, 0, 2);
    x.multiply(0, 1, 2);
    x.make(0, 4, 3);
    due("house(0) after nine acts", 9, () -> x.house(0));
    due("house(1) after nine acts", 0, () -> x.house(1));
    x.putWide(3, 1, MAX, -1);
    due("a sum beyond", -9, () -> x.meet(3, 0, 0, 2));
    due("a PRODUCT beyond", -9, () -> x.multiply(3, 0, 2));
    due("no INVERSE", -9, () -> x.make(3, 0, 2));
    due("house(0) after three REFUSED ones", 10, () -> x.house(0));
    due("house(1) after three REFUSED ones", 3, () -> x.house(1));
    due("house(2) at the end", 2, () -> x.house(2));
    for (int what : new int[] {-1, 3, Integer.MIN_VALUE, MAX}) {
      CHECKS.thrown("house(" + what + ")", Checks.ARGUMENT, x, () -> x.house(what));
    }
  }

  private static void sound() {
    Divisorwork x = new Divisorwork();
    due("isSound of a new object", true, x::isSound);
    for (int which = 0; which <= 10; which++) {
      x.know(0, which);
      x.know(1, 10 - which);
      due("isSound of KNOWN " + which, true, x::isSound);
      x.sow(0, which * 77, 500);
      due("isSound of sown ones", true, x::isSound);
      x.putWide(which % 2, which + 1, 1073741824 * (1 + which % 3), which);
      due("isSound of wide ones", true, x::isSound);
    }
    x.know(0, 0);
    x.putWide(0, 8, Integer.MIN_VALUE, 0);
    x.put(0, 11, -1);
    x.putWide(0, 88, Integer.MIN_VALUE, 0);
    due("isSound where -2^63 by -1 is not LET", true, x::isSound);
  }

  private static void digest() {
    Divisorwork x = new Divisorwork();
    due("digest of a new object", reckoned(new Divisorwork()), x::digest);
    // 8027 by 31^484, and 1 for isSound.
    long d = 8027;
    for (int i = 0; i < 484; i++) {
      d *= 31;
    }
    due("digest of a new object by hand", d + 1, x::digest);
    x.know(0, 10);
    x.sow(1, 17, 500);
    x.putWide(2, 120, -5, 7);
    x.putWide(3, 1, Integer.MIN_VALUE, 0);
    x.make(3, 4, 3);
    x.knock();
    x.knock();
    x.knock();
    long before = x.digest();
    due("digest again", before, x::digest);
    x.isSound();
    x.house(0);
    x.tau(720, 2);
    x.powers(720);
    due("digest after asking", before, x::digest);
    due("digest by reckoning", reckoned(x), () -> before);
  }

  /** The checksum of an object with this alone at that place, and one act done. */
  private static void digestOf(long number, int function, int n, long want) {
    Divisorwork x = new Divisorwork();
    Checks.putLong(x, function, n, number);
    due("digest with " + number + " at " + n + " of function " + function, want, x::digest);
    due("the same by reckoning", reckoned(x), x::digest);
  }

  /** The wants were reckoned apart from this project, without a bound, and brought into 64 digits at the end. */
  private static void digestWraps() {
    due("digest of a new object", -1223593454177720868L, () -> new Divisorwork().digest());
    digestOf(Long.MIN_VALUE, 0, 1, 7999778582677084731L);
    digestOf(Long.MAX_VALUE, 0, 1, -6756455302375085604L);
    digestOf(-1, 0, 1, 2466916734479690204L);
    digestOf(1, 0, 1, -4914103642835072358L);
    digestOf(Long.MIN_VALUE, 3, 120, 7999778582677084731L);
    digestOf(Long.MAX_VALUE, 3, 120, 7999778582676161210L);
    digestOf(-1, 3, 120, -1223593454178614598L);
    digestOf(1, 3, 120, -1223593454176767556L);
  }

  /** A REFUSED act and a knock each change the checksum, by other numbers than an act does. */
  private static void digestCountsHouse() {
    Divisorwork x = new Divisorwork();
    x.knock();
    due("digest behind a knock", -1223593454177720837L, x::digest);
    Divisorwork y = new Divisorwork();
    y.make(0, 0, 0);
    due("digest behind a REFUSED act", -1223593454177719907L, y::digest);
    Divisorwork z = new Divisorwork();
    z.copy(0, 0);
    due("digest behind an act", -1223593454177720868L + 31 * 31 * 31, z::digest);
    due("digest behind a digest", -1223593454177720868L + 31 * 31 * 31, z::digest);
  }

  private static void knocks() {
    Divisorwork x = new Divisorwork();
    due("no knock", 0, () -> x.house(2));
    for (int i = 1; i <= 200; i++) {
      due("knock " + i, i, x::knock);
      due("house(2) behind knock " + i, i, () -> x.house(2));
    }
    due("house(0) behind the knocks", 0, () -> x.house(0));
    due("house(1) behind the knocks", 0, () -> x.house(1));
  }

  /** The call 512 is the last one that is promised: here it tells of 511 acts, REFUSED ones or knocks. */
  private static void lastCalls() {
    Divisorwork acts = new Divisorwork();
    Divisorwork refusals = new Divisorwork();
    Divisorwork knocks = new Divisorwork();
    for (int i = 1; i <= 511; i++) {
      int value = i % 2;
      due("put " + i, 1, () -> acts.put(3, 120, 2 - value));
      due("REFUSED " + i, -9, () -> refusals.make(0, 0, 3));
      due("knock " + i, i, knocks::knock);
    }
    due("511 acts", 511, () -> acts.house(0));
    due("511 REFUSED ones", 511, () -> refusals.house(1));
    due("511 knocks", 511, () -> knocks.house(2));
  }

  private static long reckoned(Divisorwork x) {
    long d = 8027;
    for (int f = 0; f < 4; f++) {
      for (int n = 1; n <= 120; n++) {
        d = d * 31 + Long.parseLong(x.value(f, n));
      }
    }
    for (int what = 0; what <= 2; what++) {
      d = d * 31 + x.house(what);
    }
    return d * 31 + 1;
  }
}
