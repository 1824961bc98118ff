/** Counts the answers that are not as due, tells each, and ends the program with exit code 1 if there was one. */
final class Checks {
  interface Call {
    Object answer();
  }

  static final String INDEX = "throws.IndexOutOfBoundsException";
  static final String ARGUMENT = "throws.IllegalArgumentException";
  static final String STATE = "throws.IllegalStateException";

  private int done = 0;
  private int wrong = 0;

  /** The answer as a text; an exception's class (just that one, none below it) behind "throws.". */
  static String told(Call call) {
    try {
      return String.valueOf(call.answer());
    } catch (RuntimeException e) {
      return "throws." + e.getClass().getSimpleName();
    }
  }

  void due(String what, Object want, Call call) {
    done++;
    String got = told(call);
    if (!got.equals(String.valueOf(want))) {
      wrong++;
      System.out.println(what + " answered " + got + ", due is " + want);
    }
  }

  /** The call is due to throw that, and to change nothing of the object. */
  void thrown(String what, String want, Divisorwork x, Call call) {
    long before = x.digest();
    due(what, want, call);
    due(what + " changes nothing", before, x::digest);
  }

  /**
   * That one is REFUSED: -9 is told, and nothing but house() of 1 changes, which goes up by 1; in the digest
   * two more numbers come behind that one, so it goes up by 31 * 31.
   */
  void refused(String what, Divisorwork x, Call call) {
    long before = x.digest();
    int refusals = x.house(1);
    due(what, -9, call);
    due(what + " counts as REFUSED", refusals + 1, () -> x.house(1));
    due(what + " changes nothing else", before + 31 * 31, x::digest);
  }

  /** The values of the function at 1 and on, as many as are given. */
  void values(String what, Divisorwork x, int function, long... wants) {
    for (int i = 0; i < wants.length; i++) {
      int n = i + 1;
      due(what + ", value(" + function + ", " + n + ")", wants[i], () -> x.value(function, n));
    }
  }

  static void putLong(Divisorwork x, int function, int n, long number) {
    x.putWide(function, n, (int) (number >> 32), (int) number);
  }

  void end() {
    System.out.println(done + " answers asked, " + wrong + " not as due");
    if (wrong != 0) {
      System.exit(1);
    }
  }
}
