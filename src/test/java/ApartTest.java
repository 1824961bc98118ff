import java.util.HashMap;
import java.util.Map;

/**
 * What one call does stays apart from all that the document does not name there: an act changes the FUNCTION that
 * becomes so and no other one, an object knows nothing of another object, and the last calls of an object's 512
 * answer as its first ones do.
 */
public final class ApartTest {
  private interface Call {
    Object of(Divisorwork x);
  }

  private static final Checks CHECKS = new Checks();
  /** What an act made, by what it was made of: into which FUNCTION it went must not matter. */
  private static final Map<String, String> MADE = new HashMap<>();

  public static void main(String[] args) {
    knowAndPut();
    sow();
    copyEach();
    swapEach();
    meetEach();
    multiplyEach();
    makeEach();
    objectsInTurn();
    newObjectInBetween();
    dearestCallsToTheLast();
    CHECKS.end();
  }

  private static void due(String what, Object want, Checks.Call call) {
    CHECKS.due(what, want, call);
  }

  /** Four functions that are all unlike, with an INVERSE each. */
  private static Divisorwork sown() {
    Divisorwork x = new Divisorwork();
    for (int f = 0; f < 4; f++) {
      x.sow(f, 5000 * f + 123, 40 + f);
      x.put(f, 1, f % 2 == 0 ? 1 : -1);
    }
    return x;
  }

  private static String[] all(Divisorwork x) {
    String[] all = new String[480];
    for (int i = 0; i < 480; i++) {
      all[i] = x.value(i / 120, i % 120 + 1);
    }
    return all;
  }

  private static String row(String[] all, int function) {
    StringBuilder row = new StringBuilder();
    for (int i = 0; i < 120; i++) {
      row.append(all[120 * function + i]).append(' ');
    }
    return row.toString();
  }

  private static int unlike(String[] before, int one, String[] now, int other) {
    int unlike = 0;
    for (int i = 0; i < 120; i++) {
      unlike += before[120 * one + i].equals(now[120 * other + i]) ? 0 : 1;
    }
    return unlike;
  }

  /** One act on sown(): all functions but that one stay, and the answer is how many values of it are others. */
  private static void into(String what, int function, Call act) {
    String[] before = all(sown());
    Divisorwork x = sown();
    String answer = Checks.told(() -> act.of(x));
    String[] now = all(x);
    othersStay(what, function, before, now);
    due(what + " into " + function + ": how many are others", answer, () -> unlike(before, function, now, function));
    due(what + " into " + function + ": is an act", 9, () -> x.house(0));
    MADE.putIfAbsent(what, row(now, function));
    due(what + " into " + function + ": the same as into any", MADE.get(what), () -> row(now, function));
  }

  private static void othersStay(String what, int function, String[] before, String[] now) {
    for (int f = 0; f < 4; f++) {
      if (f != function) {
        int other = f;
        due(what + " into " + function + ": " + f + " stays", row(before, f), () -> row(now, other));
      }
    }
  }

  private static void knowAndPut() {
    for (int i = 0; i < 4; i++) {
      int f = i;
      for (int j = 0; j <= 10; j++) {
        int which = j;
        into("know " + which, f, x -> x.know(f, which));
      }
      for (int n : new int[] {1, 2, 60, 119, 120}) {
        into("put at " + n + " of " + f, f, x -> x.put(f, n, 7777));
        into("putWide at " + n + " of " + f, f, x -> x.putWide(f, n, 7777, -1));
      }
    }
  }

  /** What is there before has no part in what is sown, nor in the answer, which is how many are 0. */
  private static void sow() {
    Divisorwork first = new Divisorwork();
    int zeros = first.sow(0, 999, 2);
    String want = row(all(first), 0);
    for (int i = 0; i < 4; i++) {
      int f = i;
      Divisorwork x = sown();
      due("sow into " + f, zeros, () -> x.sow(f, 999, 2));
      String[] now = all(x);
      othersStay("sow", f, all(sown()), now);
      due("sow into " + f + ": what", want, () -> row(now, f));
    }
  }

  private static void copyEach() {
    for (int i = 0; i < 16; i++) {
      int from = i / 4;
      int into = i % 4;
      into("copy of " + from, into, x -> x.copy(from, into));
    }
    for (int f = 0; f < 4; f++) {
      int from = f;
      due("copy of " + f + ": it is that", row(all(sown()), f), () -> MADE.get("copy of " + from));
    }
  }

  private static void swapEach() {
    for (int i = 0; i < 16; i++) {
      int one = i / 4;
      int other = i % 4;
      String[] before = all(sown());
      Divisorwork x = sown();
      due("swap(" + one + ", " + other + ")", unlike(before, one, before, other), () -> x.swap(one, other));
      String[] now = all(x);
      for (int f = 0; f < 4; f++) {
        int function = f;
        int was = f == one ? other : f == other ? one : f;
        due("swap(" + one + ", " + other + "): " + f, row(before, was), () -> row(now, function));
      }
    }
  }

  private static void meetEach() {
    for (int i = 0; i < 192; i++) {
      int one = i / 48;
      int other = i / 12 % 4;
      int what = i / 4 % 3;
      int into = i % 4;
      into("meet " + what + " of " + one + " and " + other, into, x -> x.meet(one, other, what, into));
    }
  }

  private static void multiplyEach() {
    for (int i = 0; i < 64; i++) {
      int one = i / 16;
      int other = i / 4 % 4;
      int into = i % 4;
      into("multiply of " + Math.min(one, other) + " and " + Math.max(one, other), into,
          x -> x.multiply(one, other, into));
    }
  }

  private static void makeEach() {
    for (int i = 0; i < 96; i++) {
      int function = i / 24;
      int what = i / 4 % 6;
      int into = i % 4;
      into("make " + what + " of " + function, into, x -> x.make(function, what, into));
    }
  }

  /** One run of calls; the number makes two of them unlike. */
  private static Call[] run(int number) {
    return new Call[] {
      x -> x.sow(0, 40 * number, 3), x -> x.knock(), x -> x.know(1, number % 11), x -> x.put(0, 1, 1),
      x -> x.multiply(0, 1, 2), x -> x.make(2, 0, 3), x -> x.is(0, 3), x -> x.putWide(3, 120, 1 << 30, number),
      x -> x.make(3, 5, 3), x -> x.total(3, 120), x -> x.make(2, 2, 1), x -> x.swap(number % 4, 2),
      x -> x.totalOfProduct(0, 1, 60, number % 3), x -> x.determinant(0, 6, number % 2), x -> x.isSound(),
      x -> x.sign(30 * number, 1), x -> x.powers(60 * number), x -> x.meet(0, 1, number % 3, 0), x -> x.knock(),
      x -> x.copy(1, number % 4), x -> x.house(0), x -> x.house(1), x -> x.house(2), x -> x.differ(0, 1),
      x -> x.value(4, 1), x -> x.phi(number, 2), x -> x.sign(30 * number, 0), x -> x.digest(),
    };
  }

  /** Each object answers in turn with another one as it does alone. */
  private static void objectsInTurn() {
    for (int number = 1; number <= 12; number++) {
      Call[] first = run(number);
      Call[] second = run(number + 3);
      Divisorwork alone = new Divisorwork();
      String[] wants = new String[first.length];
      for (int i = 0; i < first.length; i++) {
        Call call = first[i];
        wants[i] = Checks.told(() -> call.of(alone));
      }
      Divisorwork x = new Divisorwork();
      Divisorwork y = new Divisorwork();
      for (int i = 0; i < first.length; i++) {
        Call one = first[i];
        Call other = second[i];
        due("run " + number + ", call " + i + " in turn with another object's", wants[i], () -> one.of(x));
        Checks.told(() -> other.of(y));
      }
    }
  }

  private static void newObjectInBetween() {
    Divisorwork x = sown();
    x.knock();
    x.make(0, 2, 3);
    long before = x.digest();
    for (int i = 0; i < 10; i++) {
      Divisorwork y = new Divisorwork();
      due("a new object beside another one", new Divisorwork().digest(), y::digest);
      y.know(3, 10);
      y.knock();
      due("an object beside a new one", before, x::digest);
    }
  }

  /** know() and 511 times that call, of which the acts change nothing any more from the second time on. */
  private static void dearestCallsToTheLast() {
    Call[] calls = {
      x -> x.digest(), x -> x.isSound(), x -> x.multiply(0, 0, 1), x -> x.make(0, 0, 1), x -> x.make(0, 1, 1),
      x -> x.make(0, 2, 1), x -> x.make(0, 3, 1), x -> x.meet(0, 0, 2, 1), x -> x.know(1, 6), x -> x.sow(0, 1, 500),
      x -> x.is(0, 0), x -> x.is(0, 1), x -> x.is(0, 3), x -> x.total(0, 120), x -> x.totalOfProduct(0, 0, 120, 0),
      x -> x.totalOfProduct(0, 0, 120, 1), x -> x.totalOfProduct(0, 0, 120, 2), x -> x.determinant(0, 6, 0),
      x -> x.determinant(0, 6, 1), x -> x.tau(997, 0), x -> x.sigma(997, 1), x -> x.phi(999, 0), x -> x.phi(960, 2),
      x -> x.sign(840, 1), x -> x.square(961, 1), x -> x.squareless(999, 0), x -> x.squareless(999, 1),
      x -> x.apart(120, 0), x -> x.apart(120, 1), x -> x.apart(120, 2), x -> x.shared(998, 999, true),
      x -> x.divisor(999, 7), x -> x.powers(840), x -> x.value(0, 120), x -> x.half(0, 120, false),
    };
    for (int i = 0; i < calls.length; i++) {
      Call call = calls[i];
      Divisorwork x = new Divisorwork();
      x.know(0, 2);
      call.of(x);
      String want = Checks.told(() -> call.of(x));
      for (int used = 4; used <= 511; used++) {
        call.of(x);
      }
      due("call " + i + ", the 512th of that object", want, () -> call.of(x));
    }
  }
}
