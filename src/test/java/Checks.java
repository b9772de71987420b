import java.util.NoSuchElementException;

/** What the tests share: comparing answers with those that are due, and looking at a whole object. */
final class Checks {
  interface Call {
    Object answer();
  }

  interface Maker {
    OpinionReactor make();
  }

  interface Use {
    Object on(OpinionReactor r);
  }

  // More changes than can ever be undone.
  private static final int MANY = 12;

  private int checks = 0;
  private int wrong = 0;

  void due(String what, Object got, Object want) {
    checks++;
    if (!got.equals(want)) {
      wrong++;
      System.out.println(what + " answered " + got + ", due is " + want);
    }
  }

  void refuses(String what, Class<? extends RuntimeException> want, Call call) {
    due(what, outcome(call), "throws " + want.getSimpleName());
  }

  /**
   * The call throws what is due, and the object is as one that was made alike and not called. It takes
   * new objects, as looking at a whole one uses it up and takes many of its 512 calls.
   */
  void refusesUnchanged(
      String what, Maker maker, Class<? extends RuntimeException> want, Use use) {
    OpinionReactor r = maker.make();
    refuses(what, want, () -> use.on(r));
    due("all that can be told after " + what, whole(r), whole(maker.make()));
    OpinionReactor other = maker.make();
    outcome(() -> use.on(other));
    due("the limit after " + what, other.setLimit(1), maker.make().setLimit(1));
  }

  /** The exception itself counts, not one above it. */
  static Object outcome(Call call) {
    try {
      return call.answer();
    } catch (RuntimeException e) {
      return "throws " + e.getClass().getSimpleName();
    }
  }

  static int type(OpinionReactor r, String text) {
    int length = 0;
    for (int i = 0; i < text.length(); i++) {
      length = r.append(text.charAt(i));
    }
    return length;
  }

  static int run(OpinionReactor r, String text) {
    type(r, text);
    return r.run();
  }

  static OpinionReactor withClaims(int number) {
    OpinionReactor r = new OpinionReactor();
    for (int i = 0; i < number; i++) {
      r.addClaim(i + 1);
    }
    return r;
  }

  /** Sets attacks that are written like "01 12 20". */
  static OpinionReactor withAttacks(int number, String attacks) {
    OpinionReactor r = withClaims(number);
    for (String attack : attacks.split(" ")) {
      r.setAttack(attack.charAt(0) - '0', attack.charAt(1) - '0', true);
    }
    return r;
  }

  static String line(OpinionReactor r, int length) {
    StringBuilder line = new StringBuilder();
    for (int i = 0; i < length; i++) {
      line.append(r.lineAt(i));
    }
    return line.toString();
  }

  static String wholeLine(OpinionReactor r) {
    StringBuilder line = new StringBuilder();
    try {
      for (int i = 0; i < 100; i++) {
        line.append(r.lineAt(i));
      }
    } catch (IndexOutOfBoundsException e) {
      // The line has ended.
    }
    return line.toString();
  }

  static String racks(OpinionReactor r) {
    return line(r, r.describeRacks());
  }

  static String claim(OpinionReactor r, int claim) {
    return line(r, r.describeClaim(claim));
  }

  static String log(OpinionReactor r) {
    StringBuilder log = new StringBuilder();
    for (int i = 0; i < r.logCount(); i++) {
      log.append(r.logKind(i)).append(r.logShift(i)).append(' ');
    }
    return log.toString().trim();
  }

  /** All that can be seen without a change and without writing the line, but for the rows of the racks. */
  static String view(OpinionReactor r) {
    StringBuilder view = new StringBuilder();
    int claims = r.claimCount();
    for (int i = 0; i < claims; i++) {
      view.append(r.weightOf(i)).append('/').append(r.layerOf(i)).append('/').append(r.fluxBits(i));
      for (int k = 0; k < claims; k++) {
        view.append(r.attacks(i, k) ? '1' : '0');
      }
      view.append(' ');
    }
    for (int slot = 0; slot < 12; slot++) {
      view.append(r.remarkAt(slot / 3, slot % 3));
    }
    view.append(' ').append(r.shiftCount()).append(' ').append(r.scrams()).append(' ').append(log(r));
    view.append(" error ").append(outcome(r::errorPosition));
    view.append(" failed ").append(outcome(r::failedCommand));
    view.append(" line ").append(wholeLine(r));
    return view.toString();
  }

  /** What view leaves out too, but for the limit: little is left of the object afterwards. */
  static String whole(OpinionReactor r) {
    StringBuilder whole = new StringBuilder(view(r));
    whole.append(" racks ").append(racks(r)).append(" text ").append(outcome(() -> r.append(' ')));
    Object left = outcome(r::undo);
    for (int i = 0; i < MANY && left instanceof Integer; i++) {
      whole.append(" undo ").append(left).append(": ").append(glance(r));
      left = outcome(r::undo);
    }
    whole.append(" at first ").append(r.setLimit(1));
    whole.append(" snapshot ").append(outcome(r::restore)).append(": ").append(glance(r));
    return whole.append(' ').append(r.setLimit(1)).toString();
  }

  private static String glance(OpinionReactor r) {
    StringBuilder glance = new StringBuilder();
    for (int layer = 0; layer < 4; layer++) {
      glance.append(r.depthOf(layer));
    }
    return glance.append(' ').append(r.claimCount()).append(' ').append(r.acceptedBits()).append(' ')
        .append(r.undecidedCount()).append(' ').append(r.powerBits()).append(' ').append(r.shiftCount()).append(' ')
        .append(r.scrams()).append(' ').append(r.logCount()).toString();
  }

  static int undoAll(OpinionReactor r) {
    int undone = 0;
    while (undone < MANY && outcome(r::undo) instanceof Integer) {
      undone++;
    }
    return undone;
  }

  void end() {
    System.out.println(checks + " checks, " + wrong + " wrong");
    if (wrong != 0) {
      System.exit(1);
    }
  }

  static final Class<IllegalArgumentException> ARGUMENT = IllegalArgumentException.class;
  static final Class<IllegalStateException> STATE = IllegalStateException.class;
  static final Class<IndexOutOfBoundsException> INDEX = IndexOutOfBoundsException.class;
  static final Class<NoSuchElementException> MISSING = NoSuchElementException.class;
  static final Class<UnsupportedOperationException> UNSUPPORTED = UnsupportedOperationException.class;
  static final Class<ArithmeticException> ARITHMETIC = ArithmeticException.class;
}
