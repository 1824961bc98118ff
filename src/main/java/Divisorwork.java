/**
 * Four functions of the whole numbers 1 to 120, each with a 64-bit value at each, and what is
 * known of numbers by their divisors and primes. ../shared/DOC.md has the promises.
 */
public final class Divisorwork {
  private static final int NONE = -1;
  private static final int REFUSED = -9;
  private static final int FUNCTIONS = 4;
  private static final int LAST = 120;
  private static final int GREATEST = 999;
  // 32 * 32 is above 999.
  private static final int MOST_ROOT = 31;
  private static final long LEAST = 1L << 63;

  private final Row[] functions = new Row[FUNCTIONS];
  // Each call reckons in these rows, so that no call needs a new one, and a source may be the target.
  private final Row scratch = new Row();
  private final Row spare = new Row();
  private final Reckoning reckoning = new Reckoning();
  private final Numbers numbers = new Numbers();
  private final Maker maker = new Maker(reckoning, numbers);
  private int acts;
  private int refusals;
  private int knocks;

  public Divisorwork() {
    for (int i = 0; i < FUNCTIONS; i++) {
      functions[i] = new Row();
    }
  }

  // ---- acts

  public int know(int function, int which)
      throws IndexOutOfBoundsException, IllegalArgumentException {
    Row row = rowOf(function);
    need(which, 0, 10);
    for (int n = 1; n <= LAST; n++) {
      scratch.lay(n, numbers.known(which, n));
    }
    return become(row);
  }

  public int put(int function, int n, int value)
      throws IndexOutOfBoundsException, IllegalArgumentException {
    Row row = rowOf(function);
    need(n, 1, LAST);
    return putLong(row, n, value);
  }

  public int putWide(int function, int n, int upper, int lower)
      throws IndexOutOfBoundsException, IllegalArgumentException {
    Row row = rowOf(function);
    need(n, 1, LAST);
    return putLong(row, n, ((long) upper << 32) | (lower & 0xFFFFFFFFL));
  }

  public int sow(int function, int seed, int wide)
      throws IndexOutOfBoundsException, IllegalArgumentException {
    Row row = rowOf(function);
    need(seed, 0, 65535);
    need(wide, 0, 500);
    int span = 2 * wide + 1;
    int x = seed;
    int zeros = 0;
    for (int n = 1; n <= LAST; n++) {
      x = (x * 25173 + 13849) % 65536;
      int sown = (span > 0 ? x / 64 % span : 0) - wide;
      zeros += sown == 0 ? 1 : 0;
      row.lay(n, sown);
    }
    acts++;
    return zeros;
  }

  public int copy(int from, int into) throws IndexOutOfBoundsException {
    Row source = rowOf(from);
    Row target = rowOf(into);
    acts++;
    return target.takeFrom(source);
  }

  public int swap(int one, int other) throws IndexOutOfBoundsException {
    Row first = rowOf(one);
    Row second = rowOf(other);
    int unlike = first.countUnlike(second);
    first.exchange(second);
    acts++;
    return unlike;
  }

  public int meet(int one, int other, int what, int into)
      throws IndexOutOfBoundsException, IllegalArgumentException {
    Row first = rowOf(one);
    Row second = rowOf(other);
    Row target = rowOf(into);
    need(what, 0, 2);
    return maker.layMet(what, first, second, scratch) ? become(target) : refuse();
  }

  public int multiply(int one, int other, int into) throws IndexOutOfBoundsException {
    Row first = rowOf(one);
    Row second = rowOf(other);
    Row target = rowOf(into);
    return maker.layProduct(first, second, scratch) ? become(target) : refuse();
  }

  public int make(int function, int what, int into)
      throws IndexOutOfBoundsException, IllegalArgumentException {
    Row row = rowOf(function);
    Row target = rowOf(into);
    need(what, 0, 5);
    return maker.layMade(what, row, scratch) ? become(target) : refuse();
  }

  // ---- asked of functions

  public String value(int function, int n)
      throws IndexOutOfBoundsException, IllegalArgumentException {
    Row row = rowOf(function);
    need(n, 1, LAST);
    return textOf(row.at(n));
  }

  public int half(int function, int n, boolean isUpper)
      throws IndexOutOfBoundsException, IllegalArgumentException {
    Row row = rowOf(function);
    need(n, 1, LAST);
    return (int) (isUpper ? row.at(n) >> 32 : row.at(n));
  }

  public int differ(int one, int other) throws IndexOutOfBoundsException {
    Row first = rowOf(one);
    Row second = rowOf(other);
    return first.firstUnlike(second);
  }

  public boolean is(int function, int what)
      throws IndexOutOfBoundsException, IllegalArgumentException {
    Row row = rowOf(function);
    need(what, 0, 3);
    switch (what) {
      case 0:
        return maker.isByPrimes(row, false);
      case 1:
        return maker.isByPrimes(row, true);
      case 2:
        return maker.hasInverse(row);
      default:
        return maker.layInverse(row, scratch);
    }
  }

  public String total(int function, int n)
      throws IndexOutOfBoundsException, IllegalArgumentException, IllegalStateException {
    Row row = rowOf(function);
    need(n, 0, LAST);
    reckoning.begin();
    long sum = 0;
    for (int i = 1; i <= n; i++) {
      sum = reckoning.plus(sum, row.at(i));
    }
    if (reckoning.isBeyond()) {
      throw new IllegalStateException("the total goes beyond");
    }
    return textOf(sum);
  }

  public String totalOfProduct(int one, int other, int n, int how)
      throws IndexOutOfBoundsException, IllegalArgumentException, IllegalStateException {
    Row first = rowOf(one);
    Row second = rowOf(other);
    need(n, 1, LAST);
    need(how, 0, 2);
    needSizes(first, n, 1000000);
    needSizes(second, n, 1000000);
    if (how == 0) {
      return textOf(Totals.plainly(first, second, n));
    }
    return textOf(how == 1 ? Totals.byQuotients(first, second, n) : Totals.byRoot(first, second, n));
  }

  public String determinant(int function, int size, int how)
      throws IndexOutOfBoundsException, IllegalArgumentException, IllegalStateException {
    Row row = rowOf(function);
    need(size, 1, Table.MOST_ROWS);
    need(how, 0, 1);
    needSizes(row, size, 100);
    if (how == 0) {
      return textOf(Table.sumOfSequences(row, size, 1, 0));
    }
    long product = 1;
    for (int n = 1; n <= size; n++) {
      product *= maker.signedAt(row, n);
    }
    return textOf(product);
  }

  // ---- asked of numbers

  public int tau(int n, int how) throws IllegalArgumentException {
    need(n, 1, GREATEST);
    need(how, 0, 2);
    if (how == 0) {
      return numbers.tauOneByOne(n);
    }
    return how == 1 ? numbers.tauByPowers(n) : numbers.tauByPairs(n);
  }

  public int sigma(int n, int how) throws IllegalArgumentException {
    need(n, 1, GREATEST);
    need(how, 0, 1);
    return how == 0 ? numbers.sigmaOneByOne(n) : numbers.sigmaByPowers(n);
  }

  public int phi(int n, int how) throws IllegalArgumentException {
    need(n, 1, GREATEST);
    need(how, 0, 2);
    if (how == 0) {
      return numbers.phiOneByOne(n);
    }
    return how == 1 ? numbers.phiByPowers(n) : numbers.phiBySigns(n);
  }

  public int sign(int n, int how) throws IllegalArgumentException {
    need(n, 1, GREATEST);
    need(how, 0, 1);
    return how == 0 ? numbers.signByPowers(n) : numbers.signBySums(n);
  }

  public int square(int n, int how) throws IllegalArgumentException {
    need(n, 1, GREATEST);
    need(how, 0, 1);
    return how == 0 ? numbers.squareOneByOne(n) : numbers.squareByPowers(n);
  }

  public int squareless(int n, int how) throws IllegalArgumentException {
    need(n, 1, GREATEST);
    need(how, 0, 1);
    return how == 0 ? numbers.squarelessOneByOne(n) : numbers.squarelessBySigns(n);
  }

  public int apart(int n, int how) throws IllegalArgumentException {
    need(n, 1, LAST);
    need(how, 0, 2);
    if (how == 0) {
      return numbers.apartOneByOne(n);
    }
    return how == 1 ? numbers.apartBySigns(n) : numbers.apartByPhi(n);
  }

  public int shared(int a, int b, boolean isLeast) throws IllegalArgumentException {
    need(a, 1, GREATEST);
    need(b, 1, GREATEST);
    return isLeast ? Numbers.leastOf(a, b) : Numbers.commonOf(a, b);
  }

  public int divisor(int n, int k) throws IllegalArgumentException {
    need(n, 1, GREATEST);
    if (k < 0) {
      throw new IllegalArgumentException("k is below 0");
    }
    int ahead = 0;
    for (int d = 1; d <= n; d++) {
      if (n % d == 0) {
        if (ahead == k) {
          return d;
        }
        ahead++;
      }
    }
    return NONE;
  }

  public String powers(int n) throws IllegalArgumentException {
    need(n, 1, GREATEST);
    return numbers.textOfPowers(n);
  }

  // ---- the whole

  public int house(int what) throws IllegalArgumentException {
    need(what, 0, 2);
    if (what == 0) {
      return acts;
    }
    return what == 1 ? refusals : knocks;
  }

  public int knock() {
    knocks++;
    return knocks;
  }

  public boolean isSound() {
    Row first = functions[0];
    Row second = functions[1];
    if (maker.laySummed(first, scratch) && maker.laySigned(scratch, spare)
        && spare.firstUnlike(first) != NONE) {
      return false;
    }
    if (maker.layProduct(first, second, scratch) && maker.layProduct(second, first, spare)
        && spare.firstUnlike(scratch) != NONE) {
      return false;
    }
    return !maker.isByPrimes(first, false)
        || (maker.layByPrimes(first, scratch) && scratch.firstUnlike(first) == NONE);
  }

  public long digest() {
    long d = 8027;
    for (int i = 0; i < FUNCTIONS; i++) {
      for (int n = 1; n <= LAST; n++) {
        d = d * 31 + functions[i].at(n);
      }
    }
    d = d * 31 + acts;
    d = d * 31 + refusals;
    d = d * 31 + knocks;
    return d * 31 + (isSound() ? 1 : 0);
  }

  // ---- what the acts share

  private Row rowOf(int function) {
    if (function < 0 || function >= FUNCTIONS) {
      throw new IndexOutOfBoundsException("no such function");
    }
    return functions[function];
  }

  private static void need(int number, int least, int most) {
    if (number < least || number > most) {
      throw new IllegalArgumentException("a number is not among those allowed");
    }
  }

  private static void needSizes(Row row, int n, int most) {
    if (!row.isWithin(n, most)) {
      throw new IllegalStateException("a value has too great a size");
    }
  }

  private int putLong(Row row, int n, long number) {
    int others = row.at(n) == number ? 0 : 1;
    row.lay(n, number);
    acts++;
    return others;
  }

  private int become(Row target) {
    acts++;
    return target.takeFrom(scratch);
  }

  private int refuse() {
    refusals++;
    return REFUSED;
  }

  private static String textOf(long number) {
    StringBuilder text = new StringBuilder();
    long rest = number;
    // The digits come one by one off the signed number, as the size of -2^63 is no long.
    for (int i = 0; i < 19 && (i == 0 || rest != 0); i++) {
      int digit = (int) (rest % 10);
      text.append((char) ('0' + (digit < 0 ? -digit : digit)));
      rest /= 10;
    }
    if (number < 0) {
      text.append('-');
    }
    return text.reverse().toString();
  }

  /** The values of one function at 1 to 120; elsewhere it answers 0 and keeps nothing. */
  private static final class Row {
    private final long[] cells = new long[LAST + 1];

    long at(int n) {
      return n >= 1 && n <= LAST ? cells[n] : 0;
    }

    void lay(int n, long number) {
      if (n >= 1 && n <= LAST) {
        cells[n] = number;
      }
    }

    /** Becomes as the other row; tells at how many places that changed it. */
    int takeFrom(Row other) {
      int unlike = countUnlike(other);
      for (int n = 1; n <= LAST; n++) {
        cells[n] = other.cells[n];
      }
      return unlike;
    }

    void exchange(Row other) {
      for (int n = 1; n <= LAST; n++) {
        long mine = cells[n];
        cells[n] = other.cells[n];
        other.cells[n] = mine;
      }
    }

    int countUnlike(Row other) {
      int unlike = 0;
      for (int n = 1; n <= LAST; n++) {
        unlike += cells[n] == other.cells[n] ? 0 : 1;
      }
      return unlike;
    }

    int firstUnlike(Row other) {
      for (int n = 1; n <= LAST; n++) {
        if (cells[n] != other.cells[n]) {
          return n;
        }
      }
      return NONE;
    }

    boolean isWithin(int n, long most) {
      for (int i = 1; i <= n; i++) {
        if (at(i) > most || at(i) < -most) {
          return false;
        }
      }
      return true;
    }

    long totalTo(int n) {
      long sum = 0;
      for (int i = 1; i <= n; i++) {
        sum += at(i);
      }
      return sum;
    }
  }

  /** Sums and products that remember whether one of them since begin() was not LET. */
  private static final class Reckoning {
    private boolean beyond;

    void begin() {
      beyond = false;
    }

    boolean isBeyond() {
      return beyond;
    }

    long plus(long a, long b) {
      long sum = a + b;
      // Only two of the same sign can leave the range, and then the sign of the sum is the other one.
      if (((a ^ sum) & (b ^ sum)) < 0) {
        beyond = true;
      }
      return sum;
    }

    long minus(long a, long b) {
      long rest = a - b;
      if (((a ^ b) & (a ^ rest)) < 0) {
        beyond = true;
      }
      return rest;
    }

    long times(long a, long b) {
      if (!isLetProduct(a, b)) {
        beyond = true;
      }
      return a * b;
    }

    static boolean isLetProduct(long a, long b) {
      if (b == 0) {
        return true;
      }
      // The one product that wraps onto a quotient that seems right is -2^63 by -1.
      return a * b / b == a && !(a == LEAST && b == -1);
    }
  }

  /** Lays what is made of functions into a row; each answers false if that is to be refused. */
  private static final class Maker {
    private final Reckoning reckoning;
    private final Numbers numbers;

    Maker(Reckoning reckoning, Numbers numbers) {
      this.reckoning = reckoning;
      this.numbers = numbers;
    }

    boolean layMet(int what, Row f, Row g, Row into) {
      reckoning.begin();
      for (int n = 1; n <= LAST; n++) {
        if (what == 0) {
          into.lay(n, reckoning.plus(f.at(n), g.at(n)));
        } else if (what == 1) {
          into.lay(n, reckoning.minus(f.at(n), g.at(n)));
        } else {
          into.lay(n, reckoning.times(f.at(n), g.at(n)));
        }
      }
      return !reckoning.isBeyond();
    }

    boolean layMade(int what, Row f, Row into) {
      switch (what) {
        case 0:
          return layInverse(f, into);
        case 1:
          return laySummed(f, into);
        case 2:
          return laySigned(f, into);
        case 3:
          return layByPrimes(f, into);
        case 4:
          return layTurned(f, into);
        default:
          return layByPlace(f, into);
      }
    }

    boolean layProduct(Row f, Row g, Row into) {
      reckoning.begin();
      for (int n = 1; n <= LAST; n++) {
        long sum = 0;
        for (int d = 1; d <= n; d++) {
          if (n % d == 0) {
            sum = reckoning.plus(sum, reckoning.times(f.at(d), g.at(n / d)));
          }
        }
        into.lay(n, sum);
      }
      return !reckoning.isBeyond();
    }

    boolean hasInverse(Row f) {
      return f.at(1) == 1 || f.at(1) == -1;
    }

    boolean layInverse(Row f, Row into) {
      if (!hasInverse(f)) {
        return false;
      }
      reckoning.begin();
      into.lay(1, f.at(1));
      for (int n = 2; n <= LAST; n++) {
        long sum = 0;
        for (int d = 2; d <= n; d++) {
          if (n % d == 0) {
            sum = reckoning.plus(sum, reckoning.times(f.at(d), into.at(n / d)));
          }
        }
        into.lay(n, reckoning.times(sum, -f.at(1)));
      }
      return !reckoning.isBeyond();
    }

    boolean laySummed(Row f, Row into) {
      reckoning.begin();
      for (int n = 1; n <= LAST; n++) {
        long sum = 0;
        for (int d = 1; d <= n; d++) {
          if (n % d == 0) {
            sum = reckoning.plus(sum, f.at(d));
          }
        }
        into.lay(n, sum);
      }
      return !reckoning.isBeyond();
    }

    boolean laySigned(Row f, Row into) {
      reckoning.begin();
      for (int n = 1; n <= LAST; n++) {
        into.lay(n, signedAt(f, n));
      }
      return !reckoning.isBeyond();
    }

    long signedAt(Row f, int n) {
      long sum = 0;
      for (int d = 1; d <= n; d++) {
        if (n % d == 0) {
          sum = reckoning.plus(sum, reckoning.times(numbers.signByPowers(d), f.at(n / d)));
        }
      }
      return sum;
    }

    boolean layByPrimes(Row f, Row into) {
      reckoning.begin();
      for (int n = 1; n <= LAST; n++) {
        Powers powers = numbers.powersOf(n);
        long product = 1;
        for (int i = 0; i < powers.count(); i++) {
          product = reckoning.times(product, f.at(powers.powerAt(i)));
        }
        into.lay(n, product);
      }
      return !reckoning.isBeyond();
    }

    boolean layTurned(Row f, Row into) {
      reckoning.begin();
      for (int n = 1; n <= LAST; n++) {
        into.lay(n, reckoning.minus(0, f.at(n)));
      }
      return !reckoning.isBeyond();
    }

    boolean layByPlace(Row f, Row into) {
      reckoning.begin();
      for (int n = 1; n <= LAST; n++) {
        into.lay(n, reckoning.times(f.at(n), n));
      }
      return !reckoning.isBeyond();
    }

    boolean isByPrimes(Row f, boolean isWholly) {
      if (f.at(1) != 1) {
        return false;
      }
      for (int a = 1; a <= LAST; a++) {
        for (int b = a; a * b <= LAST; b++) {
          if ((isWholly || Numbers.commonOf(a, b) == 1) && !isProduct(f.at(a), f.at(b), f.at(a * b))) {
            return false;
          }
        }
      }
      return true;
    }

    private static boolean isProduct(long a, long b, long product) {
      return a * b == product && Reckoning.isLetProduct(a, b);
    }
  }

  /** The three ways to the total of a product; the caller keeps the values so small that none goes beyond. */
  private static final class Totals {
    static long plainly(Row f, Row g, int n) {
      long sum = 0;
      for (int m = 1; m <= n; m++) {
        for (int d = 1; d <= m; d++) {
          if (m % d == 0) {
            sum += f.at(d) * g.at(m / d);
          }
        }
      }
      return sum;
    }

    static long byQuotients(Row f, Row g, int n) {
      return byQuotientsTo(n, f, g, n);
    }

    static long byRoot(Row f, Row g, int n) {
      int root = 0;
      while (root < MOST_ROOT && (root + 1) * (root + 1) <= n) {
        root++;
      }
      return byQuotientsTo(root, f, g, n) + byQuotientsTo(root, g, f, n)
          - f.totalTo(root) * g.totalTo(root);
    }

    private static long byQuotientsTo(int last, Row f, Row g, int n) {
      long sum = 0;
      for (int a = 1; a <= last; a++) {
        sum += f.at(a) * g.totalTo(n / a);
      }
      return sum;
    }
  }

  /** The table with the value at the COMMON of i and j at i, j. */
  private static final class Table {
    private static final int MOST_ROWS = 6;

    /** The determinant of the rows from row on without the columns in taken, with the signs of both. */
    private static long sumOfSequences(Row f, int size, int row, int taken) {
      if (row > size || row > MOST_ROWS) {
        return 1;
      }
      long sum = 0;
      for (int column = 1; column <= size; column++) {
        if ((taken >> column & 1) == 0) {
          long product = f.at(Numbers.commonOf(row, column))
              * sumOfSequences(f, size, row + 1, taken | 1 << column);
          // The taken columns stand ahead of this one; each greater one turns the sign.
          boolean isOdd = (Integer.bitCount(taken >> column) & 1) == 1;
          sum += isOdd ? -product : product;
        }
      }
      return sum;
    }
  }

  /** The powers p^k of a number up to 999, by rising primes; laid anew for each number. */
  private static final class Powers {
    // 2 * 3 * 5 * 7 * 11 and 2^10 are above 999.
    private static final int MOST_PRIMES = 4;
    private static final int MOST_TIMES = 9;

    private final int[] primes = new int[MOST_PRIMES];
    private final int[] times = new int[MOST_PRIMES];
    private int count;

    void lay(int n) {
      count = 0;
      int rest = n;
      for (int p = 2; p <= rest; p++) {
        int k = 0;
        while (k < MOST_TIMES && rest % p == 0) {
          rest /= p;
          k++;
        }
        if (k > 0 && count >= 0 && count < MOST_PRIMES) {
          primes[count] = p;
          times[count] = k;
          count++;
        }
      }
    }

    int count() {
      return count;
    }

    int primeAt(int i) {
      return i >= 0 && i < MOST_PRIMES ? primes[i] : 0;
    }

    int timesAt(int i) {
      return i >= 0 && i < MOST_PRIMES ? times[i] : 0;
    }

    int powerAt(int i) {
      int power = 1;
      for (int k = 0; k < timesAt(i); k++) {
        power *= primeAt(i);
      }
      return power;
    }
  }

  /** What is known of the numbers 1 to 999, in each of its ways. */
  private static final class Numbers {
    private final Powers powers = new Powers();
    private final int[] sums = new int[GREATEST + 1];

    Powers powersOf(int n) {
      powers.lay(n);
      return powers;
    }

    long known(int which, int n) {
      switch (which) {
        case 0:
          return n == 1 ? 1 : 0;
        case 1:
          return 1;
        case 2:
          return n;
        case 3:
          return signByPowers(n);
        case 4:
          return phiByPowers(n);
        case 5:
          return tauByPowers(n);
        case 6:
          return sigmaByPowers(n);
        case 7:
          return squareOneByOne(n) == 1 ? 1 : 0;
        case 8:
          return turnByPowers(n);
        case 9:
          return squareOneByOne(n) == n ? 1 : 0;
        default:
          return (long) n * n;
      }
    }

    int tauOneByOne(int n) {
      int tau = 0;
      for (int d = 1; d <= n; d++) {
        tau += n % d == 0 ? 1 : 0;
      }
      return tau;
    }

    int tauByPowers(int n) {
      powers.lay(n);
      int tau = 1;
      for (int i = 0; i < powers.count(); i++) {
        tau *= powers.timesAt(i) + 1;
      }
      return tau;
    }

    int tauByPairs(int n) {
      int tau = 0;
      for (int d = 1; d <= MOST_ROOT && d * d <= n; d++) {
        if (n % d == 0) {
          tau += d * d < n ? 2 : 1;
        }
      }
      return tau;
    }

    int sigmaOneByOne(int n) {
      int sigma = 0;
      for (int d = 1; d <= n; d++) {
        sigma += n % d == 0 ? d : 0;
      }
      return sigma;
    }

    int sigmaByPowers(int n) {
      powers.lay(n);
      int sigma = 1;
      for (int i = 0; i < powers.count(); i++) {
        int power = 1;
        int sum = 1;
        for (int k = 0; k < powers.timesAt(i); k++) {
          power *= powers.primeAt(i);
          sum += power;
        }
        sigma *= sum;
      }
      return sigma;
    }

    int phiOneByOne(int n) {
      int phi = 0;
      for (int i = 1; i <= n; i++) {
        phi += commonOf(i, n) == 1 ? 1 : 0;
      }
      return phi;
    }

    int phiByPowers(int n) {
      powers.lay(n);
      int phi = 1;
      for (int i = 0; i < powers.count(); i++) {
        int power = 1;
        for (int k = 1; k < powers.timesAt(i); k++) {
          power *= powers.primeAt(i);
        }
        phi *= power * powers.primeAt(i) - power;
      }
      return phi;
    }

    int phiBySigns(int n) {
      int phi = 0;
      for (int d = 1; d <= n; d++) {
        if (n % d == 0) {
          phi += signByPowers(d) * (n / d);
        }
      }
      return phi;
    }

    int signByPowers(int n) {
      powers.lay(n);
      int sign = 1;
      for (int i = 0; i < powers.count(); i++) {
        sign = powers.timesAt(i) >= 2 ? 0 : -sign;
      }
      return sign;
    }

    int signBySums(int n) {
      for (int m = 1; m <= n && m <= GREATEST; m++) {
        if (n % m == 0) {
          sums[m] = m == 1 ? 1 : -sumOfSmallerDivisors(m);
        }
      }
      return n >= 1 && n <= GREATEST ? sums[n] : 0;
    }

    private int sumOfSmallerDivisors(int m) {
      int sum = 0;
      for (int d = 1; d < m && d <= GREATEST; d++) {
        sum += m % d == 0 ? sums[d] : 0;
      }
      return sum;
    }

    int turnByPowers(int n) {
      powers.lay(n);
      int all = 0;
      for (int i = 0; i < powers.count(); i++) {
        all += powers.timesAt(i);
      }
      return all % 2 == 0 ? 1 : -1;
    }

    int squareOneByOne(int n) {
      int square = 1;
      for (int d = 1; d <= MOST_ROOT && d * d <= n; d++) {
        if (n % (d * d) == 0) {
          square = d * d;
        }
      }
      return square;
    }

    int squareByPowers(int n) {
      powers.lay(n);
      int square = 1;
      for (int i = 0; i < powers.count(); i++) {
        for (int pair = 0; pair < powers.timesAt(i) / 2; pair++) {
          square *= powers.primeAt(i) * powers.primeAt(i);
        }
      }
      return square;
    }

    int squarelessOneByOne(int n) {
      int squareless = 0;
      for (int i = 1; i <= n; i++) {
        squareless += squareOneByOne(i) == 1 ? 1 : 0;
      }
      return squareless;
    }

    int squarelessBySigns(int n) {
      int squareless = 0;
      for (int d = 1; d <= MOST_ROOT && d * d <= n; d++) {
        squareless += signByPowers(d) * (n / (d * d));
      }
      return squareless;
    }

    int apartOneByOne(int n) {
      int apart = 0;
      for (int a = 1; a <= n; a++) {
        for (int b = 1; b <= n; b++) {
          apart += commonOf(a, b) == 1 ? 1 : 0;
        }
      }
      return apart;
    }

    int apartBySigns(int n) {
      int apart = 0;
      for (int d = 1; d <= n; d++) {
        int q = n / d;
        apart += signByPowers(d) * q * q;
      }
      return apart;
    }

    int apartByPhi(int n) {
      int sum = 0;
      for (int i = 1; i <= n; i++) {
        sum += phiByPowers(i);
      }
      return 2 * sum - 1;
    }

    String textOfPowers(int n) {
      powers.lay(n);
      StringBuilder text = new StringBuilder();
      for (int i = 0; i < powers.count(); i++) {
        if (i > 0) {
          text.append(' ');
        }
        text.append(powers.primeAt(i)).append('^').append(powers.timesAt(i));
      }
      return text.toString();
    }

    static int commonOf(int a, int b) {
      int greater = a;
      int rest = b;
      // Euclid: the rests of numbers up to 999 come to 0 in some fifteen steps.
      for (int step = 0; step < 100 && rest != 0; step++) {
        int next = greater % rest;
        greater = rest;
        rest = next;
      }
      return greater;
    }

    static int leastOf(int a, int b) {
      for (int k = 1; k <= b; k++) {
        if (a * k % b == 0) {
          return a * k;
        }
      }
      return a * b;
    }
  }
}
