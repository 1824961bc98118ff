import java.math.BigInteger;

/** The acts and what is asked of functions, told by the document's words over numbers without a bound. */
final class Model {
  private static final BigInteger LEAST = BigInteger.valueOf(Long.MIN_VALUE);
  private static final BigInteger MOST = BigInteger.valueOf(Long.MAX_VALUE);
  private static final int NONE = -1;
  private static final int REFUSED = -9;
  private static final int[][] KNOWN = new int[121][];

  static {
    for (int n = 1; n <= 120; n++) {
      KNOWN[n] = allKnown(n);
    }
  }

  private final BigInteger[][] values = new BigInteger[4][121];
  private final int[] house = new int[3];
  private boolean isBeyond;

  Model() {
    for (BigInteger[] function : values) {
      java.util.Arrays.fill(function, BigInteger.ZERO);
    }
  }

  Object know(int f, int which) {
    index(f);
    range(which, 0, 10);
    BigInteger[] made = new BigInteger[121];
    for (int n = 1; n <= 120; n++) {
      made[n] = BigInteger.valueOf(known(which, n));
    }
    return become(f, made);
  }

  Object put(int f, int n, int value) {
    index(f);
    range(n, 1, 120);
    return putNumber(f, n, BigInteger.valueOf(value));
  }

  Object putWide(int f, int n, int upper, int lower) {
    index(f);
    range(n, 1, 120);
    BigInteger low = BigInteger.valueOf(lower);
    if (lower < 0) {
      low = low.add(BigInteger.TWO.pow(32));
    }
    return putNumber(f, n, BigInteger.valueOf(upper).shiftLeft(32).add(low));
  }

  private Object putNumber(int f, int n, BigInteger number) {
    BigInteger[] made = values[f].clone();
    made[n] = number;
    return become(f, made);
  }

  Object sow(int f, int seed, int wide) {
    index(f);
    range(seed, 0, 65535);
    range(wide, 0, 500);
    BigInteger[] made = new BigInteger[121];
    long x = seed;
    int zeros = 0;
    for (int n = 1; n <= 120; n++) {
      x = (x * 25173 + 13849) % 65536;
      made[n] = BigInteger.valueOf(x / 64 % (2 * wide + 1) - wide);
      zeros += made[n].signum() == 0 ? 1 : 0;
    }
    become(f, made);
    return zeros;
  }

  Object copy(int from, int into) {
    index(from);
    index(into);
    return become(into, values[from].clone());
  }

  Object swap(int one, int other) {
    index(one);
    index(other);
    BigInteger[] first = values[one].clone();
    int unlike = become(one, values[other].clone());
    become(other, first);
    house[0]--;
    return unlike;
  }

  Object meet(int one, int other, int what, int into) {
    index(one);
    index(other);
    index(into);
    range(what, 0, 2);
    isBeyond = false;
    BigInteger[] made = new BigInteger[121];
    for (int n = 1; n <= 120; n++) {
      BigInteger a = values[one][n];
      BigInteger b = values[other][n];
      made[n] = let(what == 0 ? a.add(b) : what == 1 ? a.subtract(b) : a.multiply(b));
    }
    return settle(into, made);
  }

  Object multiply(int one, int other, int into) {
    index(one);
    index(other);
    index(into);
    isBeyond = false;
    return settle(into, product(values[one], values[other]));
  }

  Object make(int f, int what, int into) {
    index(f);
    index(into);
    range(what, 0, 5);
    isBeyond = what == 0 && !hasInverse(f);
    if (isBeyond) {
      return settle(into, null);
    }
    return settle(into, made(what, values[f]));
  }

  Object value(int f, int n) {
    index(f);
    range(n, 1, 120);
    return values[f][n];
  }

  Object half(int f, int n, boolean isUpper) {
    index(f);
    range(n, 1, 120);
    return (isUpper ? values[f][n].shiftRight(32) : values[f][n]).intValue();
  }

  Object differ(int one, int other) {
    index(one);
    index(other);
    for (int n = 1; n <= 120; n++) {
      if (!values[one][n].equals(values[other][n])) {
        return n;
      }
    }
    return NONE;
  }

  Object is(int f, int what) {
    index(f);
    range(what, 0, 3);
    if (what >= 2) {
      isBeyond = false;
      if (hasInverse(f) && what == 3) {
        made(0, values[f]);
      }
      return hasInverse(f) && !isBeyond;
    }
    boolean is = values[f][1].equals(BigInteger.ONE);
    for (int a = 1; a <= 120; a++) {
      for (int b = 1; b <= 120; b++) {
        if (a * b <= 120 && (what == 1 || gcd(a, b) == 1)) {
          is &= values[f][a * b].equals(values[f][a].multiply(values[f][b]));
        }
      }
    }
    return is;
  }

  Object total(int f, int n) {
    index(f);
    range(n, 0, 120);
    isBeyond = false;
    BigInteger sum = BigInteger.ZERO;
    for (int i = 1; i <= n; i++) {
      sum = let(sum.add(values[f][i]));
    }
    if (isBeyond) {
      throw new IllegalStateException();
    }
    return sum;
  }

  Object totalOfProduct(int one, int other, int n, int how) {
    index(one);
    index(other);
    range(n, 1, 120);
    range(how, 0, 2);
    sizes(one, n, 1000000);
    sizes(other, n, 1000000);
    BigInteger[] product = product(values[one], values[other]);
    BigInteger sum = BigInteger.ZERO;
    for (int i = 1; i <= n; i++) {
      sum = sum.add(product[i]);
    }
    return sum;
  }

  Object determinant(int f, int size, int how) {
    index(f);
    range(size, 1, 6);
    range(how, 0, 1);
    sizes(f, size, 100);
    boolean[] taken = new boolean[size];
    return developed(f, size, 0, taken);
  }

  /** By the first row that is left, with turning signs along the columns that are left. */
  private BigInteger developed(int f, int size, int row, boolean[] taken) {
    if (row == size) {
      return BigInteger.ONE;
    }
    BigInteger sum = BigInteger.ZERO;
    int sign = 1;
    for (int column = 0; column < size; column++) {
      if (!taken[column]) {
        taken[column] = true;
        BigInteger part = values[f][gcd(row + 1, column + 1)].multiply(developed(f, size, row + 1, taken));
        sum = sign == 1 ? sum.add(part) : sum.subtract(part);
        taken[column] = false;
        sign = -sign;
      }
    }
    return sum;
  }

  Object house(int what) {
    range(what, 0, 2);
    return house[what];
  }

  Object knock() {
    return ++house[2];
  }

  Object digest() {
    BigInteger d = BigInteger.valueOf(8027);
    for (BigInteger[] function : values) {
      for (int n = 1; n <= 120; n++) {
        d = d.multiply(BigInteger.valueOf(31)).add(function[n]);
      }
    }
    for (int count : house) {
      d = d.multiply(BigInteger.valueOf(31)).add(BigInteger.valueOf(count));
    }
    return d.multiply(BigInteger.valueOf(31)).add(BigInteger.ONE).longValue();
  }

  private boolean hasInverse(int f) {
    return values[f][1].abs().equals(BigInteger.ONE);
  }

  private BigInteger[] product(BigInteger[] f, BigInteger[] g) {
    BigInteger[] made = new BigInteger[121];
    for (int n = 1; n <= 120; n++) {
      made[n] = BigInteger.ZERO;
      for (int d = 1; d <= n; d++) {
        if (n % d == 0) {
          made[n] = let(made[n].add(let(f[d].multiply(g[n / d]))));
        }
      }
    }
    return made;
  }

  private BigInteger[] made(int what, BigInteger[] f) {
    BigInteger[] made = new BigInteger[121];
    for (int n = 1; n <= 120; n++) {
      BigInteger sum = what == 3 ? BigInteger.ONE : BigInteger.ZERO;
      for (int d = 1; d <= n; d++) {
        if (n % d != 0) {
          continue;
        }
        if (what == 0 && d > 1) {
          sum = let(sum.add(let(f[d].multiply(made[n / d]))));
        } else if (what == 1) {
          sum = let(sum.add(f[d]));
        } else if (what == 2) {
          sum = let(sum.add(let(BigInteger.valueOf(known(3, d)).multiply(f[n / d]))));
        }
      }
      for (int p = 2; p <= n && what == 3; p++) {
        if (known(5, p) == 2 && n % p == 0) {
          int power = p;
          while (n % (power * p) == 0) {
            power *= p;
          }
          sum = let(sum.multiply(f[power]));
        }
      }
      if (what == 0) {
        sum = n == 1 ? f[1] : let(sum.multiply(f[1].negate()));
      } else if (what == 4) {
        sum = let(f[n].negate());
      } else if (what == 5) {
        sum = let(f[n].multiply(BigInteger.valueOf(n)));
      }
      made[n] = sum;
    }
    return made;
  }

  private static int gcd(int a, int b) {
    return BigInteger.valueOf(a).gcd(BigInteger.valueOf(b)).intValue();
  }

  private static int known(int which, int n) {
    return KNOWN[n][which];
  }

  private static int[] allKnown(int n) {
    int tau = 0;
    int sigma = 0;
    int phi = 0;
    int square = 1;
    int primes = 0;
    int exponents = 0;
    for (int d = 1; d <= n; d++) {
      tau += n % d == 0 ? 1 : 0;
      sigma += n % d == 0 ? d : 0;
      phi += gcd(d, n) == 1 ? 1 : 0;
      square = n % (d * d) == 0 ? d * d : square;
    }
    int rest = n;
    for (int p = 2; p <= n; p++) {
      primes += rest % p == 0 ? 1 : 0;
      for (; rest % p == 0; rest /= p) {
        exponents++;
      }
    }
    int[] all = {n == 1 ? 1 : 0, 1, n, square > 1 ? 0 : primes % 2 == 0 ? 1 : -1, phi, tau, sigma,
      square == 1 ? 1 : 0, exponents % 2 == 0 ? 1 : -1, square == n ? 1 : 0, n * n};
    return all;
  }

  private BigInteger let(BigInteger number) {
    isBeyond |= number.compareTo(LEAST) < 0 || number.compareTo(MOST) > 0;
    return number;
  }

  private Object settle(int into, BigInteger[] made) {
    if (isBeyond) {
      house[1]++;
      return REFUSED;
    }
    return become(into, made);
  }

  private int become(int f, BigInteger[] made) {
    int others = 0;
    for (int n = 1; n <= 120; n++) {
      others += made[n].equals(values[f][n]) ? 0 : 1;
      values[f][n] = made[n];
    }
    house[0]++;
    return others;
  }

  private static void index(int f) {
    if (f < 0 || f > 3) {
      throw new IndexOutOfBoundsException();
    }
  }

  private static void range(int number, int least, int most) {
    if (number < least || number > most) {
      throw new IllegalArgumentException();
    }
  }

  private void sizes(int f, int n, long most) {
    for (int i = 1; i <= n; i++) {
      if (values[f][i].abs().compareTo(BigInteger.valueOf(most)) > 0) {
        throw new IllegalStateException();
      }
    }
  }
}
