import java.util.function.Consumer;

/** The boundary cases that the document names for promises 42 to 54: commands, line, means, undo and snapshot. */
public final class CommandBoundaryTest {
  private static final Checks C = new Checks();
  private static final String FULL_TEXT = "pass 1;pass 1;pass 1;pass 1;pass 1;pass 1;pass 0001;pass 001";
  private static final String[] FORMS = {
      "claim 1234", "attack 0>1", "calm 2>3", "layer 4=5", "rack 6q", "insert 78o", "draw 90", "excite 1+2345",
      "limit 3000", "pass 4321"};

  public static void main(String[] args) {
    signsOfTexts();
    lengthsOfTexts();
    textsAfterRun();
    goodCommands();
    failingCommands();
    digitsOfNumbers();
    fullTexts();
    runsInOrder();
    everySignAtEveryPlace();
    textsAfterLongerOnes();
    errorPositions();
    errorPositionsOfAFullText();
    marksOfRuns();
    failedCommands();
    lines();
    longestLines();
    means();
    bitsOfFluxes();
    consistency();
    changesThatCanBeUndone();
    everyChange();
    changesWithoutADifference();
    callsThatAreNoChange();
    failedRunsAreNoChange();
    changesAfterUndo();
    undoOfEachPart();
    neitherUndoneNorSaved();
    snapshots();
    restoreOfEachPart();
    restoreAndUndo();
    C.end();
  }

  // ---- promises 42 to 45

  private static void signsOfTexts() {
    OpinionReactor r = new OpinionReactor();
    int length = 0;
    for (int sign = 0; sign < 300; sign++) {
      char character = (char) sign;
      if (length == 60) {
        C.refuses("run of signs", Checks.ARGUMENT, r::run);
        length = 0;
      }
      if (sign >= 32 && sign <= 126) {
        length++;
        C.due("append " + sign, r.append(character), length);
      } else {
        C.refuses("append " + sign, Checks.ARGUMENT, () -> r.append(character));
      }
    }
  }

  private static void lengthsOfTexts() {
    OpinionReactor r = new OpinionReactor();
    for (int length = 1; length <= 60; length++) {
      C.due("append " + length, r.append(FULL_TEXT.charAt(length - 1)), length);
    }
    for (char more : new char[] {' ', '0', ';', '~'}) {
      C.refuses("append to a full text", Checks.STATE, () -> r.append(more));
    }
    C.refuses("append of a wrong sign to a full text", Checks.ARGUMENT, () -> r.append((char) 31));
    C.refuses("append of another wrong sign", Checks.ARGUMENT, () -> r.append((char) 127));
    C.due("run of the full text as it was", r.run(), 8);
    C.due("append after it", r.append('x'), 1);
  }

  private static void textsAfterRun() {
    for (String text : new String[] {"", "pass 1", "pass 0", "pass", "x", FULL_TEXT, FULL_TEXT.replace("001", "000")}) {
      OpinionReactor r = new OpinionReactor();
      Checks.outcome(() -> Checks.run(r, text));
      C.refuses("run of nothing after " + text, Checks.ARGUMENT, r::run);
      C.due("errorPosition of nothing", r.errorPosition(), 0);
      C.due("append after " + text, r.append('p'), 1);
    }
  }

  /** Ten claims of weight 50, a rack of each kind, and a question in the last slot of layer 0. */
  private static OpinionReactor ready() {
    OpinionReactor r = new OpinionReactor();
    for (int i = 0; i < 9; i++) {
      r.addClaim(50);
    }
    r.setRack(1, 'q');
    r.setRack(2, 'o');
    r.insert(0, 2, 'q');
    r.addClaim(50);
    return r;
  }

  private static void good(String command, Consumer<OpinionReactor> sameCall) {
    OpinionReactor r = command.startsWith("claim") ? Checks.withClaims(9) : ready();
    OpinionReactor twin = command.startsWith("claim") ? Checks.withClaims(9) : ready();
    C.due("run of " + command, Checks.run(r, command), 1);
    sameCall.accept(twin);
    C.due("all that " + command + " did", Checks.whole(r), Checks.whole(twin));
  }

  private static void goodCommands() {
    good("claim 1", r -> r.addClaim(1));
    good("claim 99", r -> r.addClaim(99));
    good("attack 0>9", r -> r.setAttack(0, 9, true));
    good("attack 9>0", r -> r.setAttack(9, 0, true));
    good("attack 9>9", r -> r.setAttack(9, 9, true));
    good("calm 9>0", r -> r.setAttack(9, 0, false));
    good("layer 9=3", r -> r.setLayer(9, 3));
    good("layer 0=0", r -> r.setLayer(0, 0));
    good("rack 1o", r -> r.setRack(1, 'o'));
    good("rack 2q", r -> r.setRack(2, 'q'));
    good("rack 3a", r -> r.setRack(3, 'a'));
    good("insert 00o", r -> r.insert(0, 0, 'o'));
    good("insert 12q", r -> r.insert(1, 2, 'q'));
    good("insert 30q", r -> r.insert(3, 0, 'q'));
    good("draw 02", r -> r.withdraw(0, 2));
    good("excite 9+1", r -> r.excite(9, 1));
    good("excite 0+1000", r -> r.excite(0, 1000));
    good("limit 1", r -> r.setLimit(1));
    good("limit 9999", r -> r.setLimit(9999));
    good("pass 1", r -> r.pass(1));
    good("pass 20", r -> r.pass(20));
    OpinionReactor calmed = Checks.withAttacks(2, "01 10");
    Checks.run(calmed, "calm 0>1");
    C.due("the attack that calm ended", calmed.attacks(0, 1), false);
    C.due("the attack that it left", calmed.attacks(1, 0), true);
  }

  private static void failing(String command) {
    OpinionReactor r = ready();
    C.refuses("run of " + command, Checks.STATE, () -> Checks.run(r, command));
    C.due("failedCommand of " + command, r.failedCommand(), 0);
    C.refuses("errorPosition of " + command, Checks.MISSING, r::errorPosition);
    C.due("all after " + command, Checks.whole(r).replace("failed 0", "failed throws NoSuchElementException"),
        Checks.whole(ready()));
  }

  private static void failingCommands() {
    for (String command : new String[] {
        "claim 1", "claim 99", "layer 9=4", "layer 0=9", "rack 4q", "rack 9a", "rack 0a", "insert 40q", "insert 03q",
        "insert 33o", "insert 02o", "insert 02q", "insert 10o", "insert 20q", "draw 01", "draw 03", "draw 42",
        "excite 9+0", "excite 9+1001", "excite 0+9999", "limit 0", "limit 0000", "pass 0", "pass 21", "pass 9999"}) {
      failing(command);
    }
    for (String command : new String[] {
        "claim 0", "claim 100", "attack 9>0", "attack 0>9", "calm 9>0", "calm 0>9", "layer 9=0", "excite 9+1"}) {
      OpinionReactor r = Checks.withClaims(9);
      C.refuses("run with nine claims of " + command, Checks.STATE, () -> Checks.run(r, command));
      C.due("failedCommand with nine claims of " + command, r.failedCommand(), 0);
      C.due("undo after it", r.undo(), 7);
    }
  }

  private static void digitsOfNumbers() {
    for (String digits : new String[] {"7", "07", "007", "0007"}) {
      OpinionReactor r = new OpinionReactor();
      C.due("run of claim " + digits, Checks.run(r, "claim " + digits), 1);
      C.due("weight of " + digits, r.weightOf(0), 7);
      Checks.run(r, "excite 0+" + digits + ";limit " + digits);
      C.due("flux of " + digits, r.fluxOf(0), 7f);
      C.due("limit of " + digits, r.setLimit(1), 7);
      Checks.run(r, "pass " + digits);
      C.due("shifts of " + digits, r.shiftCount(), 7);
    }
    for (String text : new String[] {"claim 00007", "excite 0+00007", "limit 00007", "pass 00007"}) {
      OpinionReactor r = Checks.withClaims(1);
      C.refuses("run of " + text, Checks.ARGUMENT, () -> Checks.run(r, text));
      C.due("errorPosition of " + text, r.errorPosition(), text.length() - 1);
    }
    for (String text : new String[] {"claim ", "excite 0+", "limit ", "pass "}) {
      OpinionReactor r = Checks.withClaims(1);
      C.refuses("run of " + text + "without a digit", Checks.ARGUMENT, () -> Checks.run(r, text));
      C.due("errorPosition of " + text + "without a digit", r.errorPosition(), text.length());
    }
    OpinionReactor different = new OpinionReactor();
    Checks.run(different, "claim 98;limit 9876;excite 0+987;pass 19");
    C.due("a weight of two digits", different.weightOf(0), 98);
    C.due("a limit of four digits", different.setLimit(1), 9876);
    C.due("19 shifts", different.shiftCount(), 19);
  }

  private static void fullTexts() {
    OpinionReactor r = new OpinionReactor();
    C.due("length of the full text", Checks.type(r, FULL_TEXT), 60);
    C.due("run of 60 signs", r.run(), 8);
    C.due("shifts of 60 signs", r.shiftCount(), 8);
    OpinionReactor claims = new OpinionReactor();
    C.due("run of seven claims", Checks.run(claims, "claim 1;claim 2;claim 3;claim 4;claim 5;claim 6;claim 0099"), 7);
    C.due("weight of the seventh", claims.weightOf(6), 99);
    OpinionReactor inserts = new OpinionReactor();
    C.due("run of 54 signs", Checks.run(inserts, "insert 00q;insert 01q;insert 02q;insert 10o;insert 11o"), 5);
    C.due("its racks", Checks.racks(inserts), "aqqq aoo. a... a...");
    OpinionReactor last = new OpinionReactor();
    C.refuses("60 signs with a failing last command", Checks.STATE,
        () -> Checks.run(last, FULL_TEXT.substring(0, 57) + "000"));
    C.due("its failedCommand", last.failedCommand(), 7);
    C.due("its shifts", last.shiftCount(), 0);
  }

  private static void runsInOrder() {
    OpinionReactor r = new OpinionReactor();
    C.due("commands that need those before them",
        Checks.run(r, "claim 5;claim 6;attack 0>1;excite 0+8;pass 1;calm 0>1;pass 1"), 7);
    C.due("flux by the attack", r.fluxOf(1), 1f);
    C.due("flux of the first", r.fluxOf(0), 2f);
    OpinionReactor early = new OpinionReactor();
    C.refuses("an attack ahead of its claim", Checks.STATE, () -> Checks.run(early, "claim 5;attack 0>1;claim 6"));
    C.due("failedCommand of it", early.failedCommand(), 1);
    C.due("claimCount after it", early.claimCount(), 0);
    C.due("a rack, a remark, and the remark again", Checks.run(early, "rack 0o;insert 00o;draw 00;rack 0q"), 4);
    C.due("the racks of it", Checks.racks(early), "q... a... a... a...");
    OpinionReactor scrammed = Checks.withClaims(1);
    C.refuses("an insert after a scram in the run", Checks.STATE,
        () -> Checks.run(scrammed, "limit 1;excite 0+9;pass 1;insert 00q"));
    C.due("failedCommand after the scram", scrammed.failedCommand(), 3);
    C.due("scrams of the run that failed", scrammed.scrams(), 0);
    C.due("racks of it", Checks.racks(scrammed), "a... a... a... a...");
    C.due("limit of it", scrammed.setLimit(2), 1000);
    Checks.run(scrammed, "excite 0+9;pass 1;draw 00");
    C.due("a withdrawal after a scram in the run", Checks.racks(scrammed), "a.oo aooo aooo aooo");
  }

  private static void sameAsModel(String text) {
    OpinionReactor r = new OpinionReactor();
    Model model = new Model();
    for (int i = 0; i < text.length(); i++) {
      r.append(text.charAt(i));
      model.append(text.charAt(i));
    }
    C.due("run of " + text, Checks.outcome(r::run), Checks.outcome(model::run));
    C.due("errorPosition of " + text, Checks.outcome(r::errorPosition), Checks.outcome(model::errorPosition));
    C.due("failedCommand of " + text, Checks.outcome(r::failedCommand), Checks.outcome(model::failedCommand));
  }

  private static void everySignAtEveryPlace() {
    for (String form : FORMS) {
      for (int place = 0; place <= form.length(); place++) {
        sameAsModel(form.substring(0, place));
        for (char sign = ' '; sign <= '~'; sign++) {
          sameAsModel(form.substring(0, place) + sign);
          sameAsModel("draw 00;" + form.substring(0, place) + sign + "0");
        }
      }
    }
  }

  /** What was behind the end of a text belongs to an earlier one. */
  private static void textsAfterLongerOnes() {
    for (String form : FORMS) {
      for (int length = 0; length < form.length(); length++) {
        String text = form.substring(0, length);
        if (!text.matches("(claim |limit |pass |excite .[+])\\d+")) {
          OpinionReactor r = new OpinionReactor();
          Checks.outcome(() -> Checks.run(r, form));
          C.refuses("run of " + text + " after " + form, Checks.ARGUMENT, () -> Checks.run(r, text));
          C.due("errorPosition of " + text + " after " + form, r.errorPosition(), length);
        }
      }
    }
    OpinionReactor r = new OpinionReactor();
    Checks.outcome(() -> Checks.run(r, "claim 1234"));
    C.due("run of a shorter number", Checks.run(r, "claim 12"), 1);
    C.due("its weight", r.weightOf(0), 12);
    Checks.run(r, "claim 1;claim 1");
    C.due("run of fewer commands", Checks.run(r, "claim 1"), 1);
    C.due("claimCount after it", r.claimCount(), 4);
  }

  private static void wrongText(String text, int position) {
    OpinionReactor r = Checks.withClaims(1);
    C.refuses("run of " + text, Checks.ARGUMENT, () -> Checks.run(r, text));
    C.due("errorPosition of " + text, r.errorPosition(), position);
    C.refuses("failedCommand of " + text, Checks.MISSING, r::failedCommand);
    C.due("claimCount after " + text, r.claimCount(), 1);
    C.due("undo after " + text, r.undo(), 0);
  }

  private static void errorPositions() {
    wrongText("", 0);
    wrongText(";", 0);
    wrongText(" ", 0);
    wrongText("~", 0);
    wrongText("c", 1);
    wrongText("cb", 1);
    wrongText("claim", 5);
    wrongText("claim1", 5);
    wrongText("claim 1;", 8);
    wrongText("claim 1;;", 8);
    wrongText("claim 1 ;", 7);
    wrongText("claim 1; claim 1", 8);
    wrongText("claim 1claim 1", 7);
    wrongText("claim 1;claim 1;cx", 17);
    // What a command would do comes after all that it is written with.
    wrongText("claim 100;claim 0;x", 18);
    wrongText("layer 9=9;insert 99q;draw 99;rack 9a;pass 9999;calm 9>9;", 56);
  }

  private static void errorPositionsOfAFullText() {
    String seven = "pass 1;pass 1;pass 1;pass 1;pass 1;pass 1;pass 1;";
    wrongText(seven + "pass 0001;x", 59);
    wrongText(seven + "pass 00001;", 58);
    wrongText(seven + "insert 33q;", 60);
    wrongText(seven + "insert 33q~", 59);
    wrongText(seven + "insert 33a;", 58);
    wrongText(seven + "pass 1;exci", 60);
    wrongText(seven + "pass 1;excI", 59);
  }

  private static void marksOfRuns() {
    OpinionReactor r = new OpinionReactor();
    C.refuses("errorPosition at first", Checks.MISSING, r::errorPosition);
    C.refuses("failedCommand at first", Checks.MISSING, r::failedCommand);
    C.due("a good run", Checks.run(r, "claim 1;pass 1"), 2);
    C.refuses("errorPosition after a good run", Checks.MISSING, r::errorPosition);
    C.refuses("failedCommand after a good run", Checks.MISSING, r::failedCommand);
    C.refuses("a failing run", Checks.STATE, () -> Checks.run(r, "pass 1;pass 1;pass 0"));
    C.refuses("errorPosition after a failing run", Checks.MISSING, r::errorPosition);
    C.due("failedCommand after a failing run", r.failedCommand(), 2);
    C.refuses("a wrong text", Checks.ARGUMENT, () -> Checks.run(r, "pass 0;pa;pass 0"));
    C.due("errorPosition after a wrong text", r.errorPosition(), 9);
    C.due("failedCommand after a wrong text", r.failedCommand(), 2);
    C.refuses("another failing run", Checks.STATE, () -> Checks.run(r, "pass 0;pass 0"));
    C.due("errorPosition after another failing run", r.errorPosition(), 9);
    C.due("failedCommand after another failing run", r.failedCommand(), 0);
    C.refuses("a run of nothing", Checks.ARGUMENT, r::run);
    C.due("errorPosition after a run of nothing", r.errorPosition(), 0);
    C.due("a good run again", Checks.run(r, "pass 1"), 1);
    C.due("errorPosition at last", r.errorPosition(), 0);
    C.due("failedCommand at last", r.failedCommand(), 0);
  }

  private static void failedCommands() {
    for (int failed = 0; failed < 8; failed++) {
      OpinionReactor r = new OpinionReactor();
      StringBuilder text = new StringBuilder();
      for (int i = 0; i < 8; i++) {
        text.append(i > 0 ? ";" : "").append(i == failed ? "pass 0" : "pass 1");
      }
      C.refuses("run of " + text, Checks.STATE, () -> Checks.run(r, text.toString()));
      C.due("failedCommand of " + text, r.failedCommand(), failed);
      C.due("shiftCount after " + text, r.shiftCount(), 0);
      C.refuses("undo after " + text, Checks.STATE, r::undo);
    }
  }

  // ---- promises 46 to 51

  private static void lines() {
    OpinionReactor r = Checks.withAttacks(3, "12 10");
    C.due("the line at first", Checks.wholeLine(r), "");
    C.refuses("lineAt(0) at first", Checks.INDEX, () -> r.lineAt(0));
    C.due("describeClaim without attacks", r.describeClaim(2), 2);
    C.due("lineAt of the last", r.lineAt(1), '-');
    C.refuses("lineAt after the last", Checks.INDEX, () -> r.lineAt(2));
    C.due("describeRacks", r.describeRacks(), 19);
    C.due("lineAt(18)", r.lineAt(18), '.');
    C.refuses("lineAt(19)", Checks.INDEX, () -> r.lineAt(19));
    C.due("describeClaim after a longer line", r.describeClaim(1), 4);
    C.due("lineAt(3)", r.lineAt(3), '2');
    C.refuses("lineAt(4) of a shorter line", Checks.INDEX, () -> r.lineAt(4));
    C.refuses("lineAt(18) of a shorter line", Checks.INDEX, () -> r.lineAt(18));
    C.refuses("lineAt(-1)", Checks.INDEX, () -> r.lineAt(-1));
    C.refuses("describeClaim(3)", Checks.INDEX, () -> r.describeClaim(3));
    C.due("the line after a refused call", Checks.wholeLine(r), "1+02");
    r.setAttack(1, 0, false);
    r.addClaim(1);
    C.due("the line after changes", Checks.wholeLine(r), "1+02");
  }

  private static void longestLines() {
    OpinionReactor r = Checks.withClaims(10);
    StringBuilder want = new StringBuilder("9+");
    for (int other = 0; other < 9; other++) {
      r.setAttack(9, other, true);
      want.append(other);
      C.due("length with " + (other + 1) + " attacks", r.describeClaim(9), 3 + other);
      C.due("the line", Checks.line(r, 3 + other), want.toString());
    }
    r.setAttack(9, 9, true);
    C.due("length with all attacks", r.describeClaim(9), 12);
    C.due("the longest line", Checks.wholeLine(r), "9?0123456789");
    C.due("the racks of a new object", Checks.racks(new OpinionReactor()), "a... a... a... a...");
    OpinionReactor full = new OpinionReactor();
    Checks.run(full, "insert 00o;insert 01q;insert 02o;insert 30q");
    Checks.run(full, "rack 1q;rack 2o;insert 31q;insert 32o;insert 12q");
    C.due("a line of racks", Checks.racks(full), "aoqo q..q o... aqqo");
  }

  /** Every mean that there can be. */
  private static void means() {
    for (int claims = 1; claims <= 10; claims++) {
      for (int sum = claims; sum <= 99 * claims; sum++) {
        OpinionReactor r = new OpinionReactor();
        for (int i = 0; i < claims; i++) {
          r.addClaim(sum / claims + (i < sum % claims ? 1 : 0));
        }
        double want = (double) sum / (double) claims;
        C.due("meanWeight of " + sum + " by " + claims, r.meanWeight(), want);
        C.due("meanWeightBits of " + sum + " by " + claims, r.meanWeightBits(), Double.doubleToLongBits(want));
      }
    }
    OpinionReactor r = new OpinionReactor();
    C.refuses("meanWeight without claims", Checks.ARITHMETIC, r::meanWeight);
    C.refuses("meanWeightBits without claims", Checks.ARITHMETIC, r::meanWeightBits);
    r.addClaim(4);
    r.undo();
    C.refuses("meanWeight without claims again", Checks.ARITHMETIC, r::meanWeight);
    C.refuses("meanWeightBits without claims again", Checks.ARITHMETIC, r::meanWeightBits);
  }

  private static void bitsOfFluxes() {
    for (int amount : new int[] {1, 2, 3, 7, 10, 333, 512, 999, 1000}) {
      for (String remarks : new String[] {"", "o", "qq", "ooo"}) {
        OpinionReactor r = Checks.withClaims(1);
        for (int slot = 0; slot < remarks.length(); slot++) {
          r.insert(0, slot, remarks.charAt(slot));
        }
        r.excite(0, amount);
        float flux = amount;
        int left = 10 - r.depthOf(0);
        for (int shift = 0; shift < 120; shift++) {
          C.due("fluxBits", r.fluxBits(0), Float.floatToIntBits(flux));
          C.due("powerBits", r.powerBits(), Float.floatToIntBits(flux));
          C.due("fluxOf", r.fluxOf(0), flux);
          r.pass(1);
          flux = flux * 0.5f * left / 10f;
        }
      }
    }
  }

  private static void consistency() {
    C.due("isConsistent without claims", new OpinionReactor().isConsistent(), true);
    for (int claims = 1; claims <= 10; claims++) {
      OpinionReactor r = Checks.withClaims(claims);
      C.due("isConsistent without attacks", r.isConsistent(), true);
      for (int i = 0; i < claims * claims; i++) {
        r.setAttack(i / claims, i % claims, true);
      }
      r.excite(claims - 1, 1000);
      C.due("isConsistent with all attacks", r.isConsistent(), true);
      r.pass(20);
      C.due("isConsistent after shifts", r.isConsistent(), true);
    }
  }

  // ---- promises 52 to 54

  private static void changesThatCanBeUndone() {
    for (int changes = 0; changes <= 20; changes++) {
      OpinionReactor r = new OpinionReactor();
      for (int i = 1; i <= changes; i++) {
        C.due("shiftCount by pass", r.shiftCount(), i - 1);
        r.pass(1);
      }
      int left = Math.min(changes, 8);
      for (int i = 1; i <= left; i++) {
        C.due("undo " + i + " of " + changes, r.undo(), left - i);
        C.due("shiftCount after undo " + i + " of " + changes, r.shiftCount(), changes - i);
      }
      C.refuses("one more undo of " + changes, Checks.STATE, r::undo);
      C.due("shiftCount at last of " + changes, r.shiftCount(), changes - left);
    }
  }

  private static OpinionReactor basis() {
    OpinionReactor r = Checks.withAttacks(2, "01");
    r.insert(3, 1, 'q');
    r.excite(0, 9);
    return r;
  }

  private static void change(String name, Consumer<OpinionReactor> call) {
    OpinionReactor r = basis();
    call.accept(r);
    C.due("undo after " + name, r.undo(), 5);
    C.due("all after undo of " + name, Checks.whole(r), Checks.whole(basis()));
    OpinionReactor ninth = basis();
    for (int i = 0; i < 8; i++) {
      ninth.setLimit(100 + i);
    }
    call.accept(ninth);
    C.due("changes to undo after " + name + " as the ninth", Checks.undoAll(ninth), 8);
    C.due("the oldest limit after it", ninth.setLimit(1), 100);
    OpinionReactor eight = basis();
    call.accept(eight);
    for (int i = 0; i < 7; i++) {
      eight.setLimit(100 + i);
    }
    C.due("changes to undo after " + name + " as the first", Checks.undoAll(eight), 8);
    C.due("all after undo of eight", Checks.view(eight), Checks.view(basis()));
  }

  private static void everyChange() {
    change("addClaim", r -> r.addClaim(5));
    change("setAttack", r -> r.setAttack(1, 0, true));
    change("the end of an attack", r -> r.setAttack(0, 1, false));
    change("setLayer", r -> r.setLayer(1, 2));
    for (int layer = 0; layer < 3; layer++) {
      int changed = layer;
      change("setRack of " + layer, r -> r.setRack(changed, 'o'));
    }
    change("insert", r -> r.insert(0, 0, 'o'));
    change("withdraw", r -> r.withdraw(3, 1));
    change("excite", r -> r.excite(1, 1));
    change("setLimit", r -> r.setLimit(7));
    change("pass", r -> r.pass(1));
    change("pass with a scram", r -> {
      Checks.type(r, "limit 1;pass 20");
      r.run();
    });
    change("run of one", r -> Checks.run(r, "claim 7"));
    change("run of many", r -> Checks.run(r, "pass 2;layer 0=2;pass 1;excite 0+5;limit 2;pass 4"));
  }

  private static void changesWithoutADifference() {
    change("an attack that was one", r -> r.setAttack(0, 1, true));
    change("the end of none", r -> r.setAttack(1, 0, false));
    change("setLayer to the same", r -> r.setLayer(0, 0));
    change("setRack to the same", r -> r.setRack(0, 'a'));
    change("setLimit to the same", r -> r.setLimit(1000));
    change("run without a difference", r -> Checks.run(r, "limit 1000;layer 0=0"));
    OpinionReactor bounded = Checks.withClaims(1);
    for (int i = 0; i < 101; i++) {
      bounded.excite(0, 1000);
    }
    C.due("flux ahead of excite at the bound", bounded.fluxOf(0), 99999f);
    C.due("undo of excite at the bound", bounded.undo(), 7);
    C.due("flux after undo of it", bounded.fluxOf(0), 99999f);
    bounded.undo();
    C.due("flux after undo of the one before", bounded.fluxOf(0), 99000f);
  }

  private static void noChange(String name, Checks.Use use) {
    OpinionReactor few = basis();
    Checks.outcome(() -> use.on(few));
    C.due("changes to undo after " + name, Checks.undoAll(few), 5);
    OpinionReactor many = basis();
    many.pass(1);
    many.pass(1);
    many.pass(1);
    many.pass(1);
    Checks.outcome(() -> use.on(many));
    C.due("changes to undo after many and " + name, Checks.undoAll(many), 8);
    C.due("claimCount after undo of many and " + name, many.claimCount(), 1);
  }

  private static void callsThatAreNoChange() {
    noChange("nothing", r -> "");
    noChange("append", r -> r.append('c'));
    noChange("save", OpinionReactor::save);
    noChange("describeClaim", r -> r.describeClaim(0));
    noChange("describeRacks", OpinionReactor::describeRacks);
    noChange("shiftsUntilBelow", r -> r.shiftsUntilBelow(1));
    noChange("isConsistent", OpinionReactor::isConsistent);
    noChange("positions", OpinionReactor::positions);
    noChange("chains", r -> r.chains(0, 1, 999));
    noChange("claimAtRank", r -> r.claimAtRank(0));
    noChange("meanWeight", OpinionReactor::meanWeight);
    noChange("a refused restore", OpinionReactor::restore);
    noChange("a refused addClaim", r -> r.addClaim(0));
    noChange("a refused setAttack", r -> r.setAttack(0, 2, true));
    noChange("a refused setLayer", r -> r.setLayer(0, 4));
    noChange("a refused setRack", r -> r.setRack(3, 'a'));
    noChange("a refused insert", r -> r.insert(3, 1, 'q'));
    noChange("a refused withdraw", r -> r.withdraw(3, 0));
    noChange("a refused excite", r -> r.excite(0, 0));
    noChange("a refused setLimit", r -> r.setLimit(0));
    noChange("a refused pass", r -> r.pass(0));
    noChange("a run of nothing", OpinionReactor::run);
    noChange("a run of a wrong text", r -> Checks.run(r, "pass 1;"));
    noChange("a run that fails at once", r -> Checks.run(r, "pass 0"));
    noChange("a run that fails late", r -> Checks.run(r, "pass 1;claim 4;insert 00q;insert 00q"));
  }

  private static void failedRunsAreNoChange() {
    OpinionReactor r = new OpinionReactor();
    for (int i = 0; i < 9; i++) {
      r.addClaim(i + 1);
    }
    for (int i = 0; i < 9; i++) {
      C.refuses("a run that fails", Checks.STATE, () -> Checks.run(r, "claim 50;pass 3;claim 60"));
      C.due("claimCount after it", r.claimCount(), 9);
      C.due("shiftCount after it", r.shiftCount(), 0);
    }
    for (int left = 7; left >= 0; left--) {
      C.due("undo after failed runs", r.undo(), left);
      C.due("claimCount after undo", r.claimCount(), left + 1);
    }
    C.refuses("one more undo", Checks.STATE, r::undo);
  }

  private static void changesAfterUndo() {
    OpinionReactor r = new OpinionReactor();
    for (int i = 1; i <= 8; i++) {
      r.setLimit(i);
    }
    r.undo();
    r.undo();
    r.undo();
    C.due("setLimit after three undone", r.setLimit(50), 5);
    C.due("setLimit after that", r.setLimit(51), 50);
    C.due("undo of the latest", r.undo(), 6);
    C.due("undo of the one before", r.undo(), 5);
    C.due("the limit then", r.setLimit(60), 5);
    for (int left = 5; left >= 0; left--) {
      C.due("undo of what is left", r.undo(), left);
    }
    C.refuses("one more undo", Checks.STATE, r::undo);
    C.due("the first limit", r.setLimit(70), 1000);
    C.due("undo of a change after all were undone", r.undo(), 0);
    for (int turn = 0; turn < 30; turn++) {
      r.setLimit(100 + turn);
      r.setLimit(200 + turn);
      C.due("undo in turn " + turn, r.undo(), Math.min(turn + 1, 7));
    }
    C.due("the limit after all turns", r.setLimit(1), 129);
  }

  /** Something of everything that changes can change, in every place that there is. */
  private static OpinionReactor rich() {
    OpinionReactor r = Checks.withClaims(10);
    for (int i = 0; i < 10; i++) {
      r.setAttack(i, (i * 3 + 1) % 10, true);
      r.setLayer(i, i % 4);
      r.excite(i, 100 + i);
    }
    r.setLimit(123);
    for (int layer = 0; layer < 4; layer++) {
      r.setRack(layer, "qoqo".charAt(layer));
      r.insert(layer, layer % 3, "qoqo".charAt(layer));
    }
    r.pass(1);
    withdrawAll(r, 1, 2, 3, 5, 7, 9);
    return r;
  }

  private static void withdrawAll(OpinionReactor r, int... places) {
    for (int place : places) {
      r.withdraw(place / 3, place % 3);
    }
  }

  /** Changes a part of that, by eight changes. */
  private static void overturn(OpinionReactor r, int part) {
    switch (part) {
      case 0 -> {
        r.setAttack(0, 9, true);
        r.setAttack(9, 0, true);
        r.setAttack(0, 1, false);
        r.setAttack(9, 8, false);
        r.setAttack(4, 4, true);
        r.setLayer(0, 3);
        r.setLayer(9, 0);
        r.setLayer(4, 2);
      }
      case 1 -> {
        withdrawAll(r, 0, 4, 6, 8, 10, 11);
        r.setRack(0, 'a');
        r.setRack(3, 'q');
      }
      case 2 -> {
        r.excite(0, 9);
        r.excite(4, 9);
        r.excite(9, 1000);
        r.setLimit(1);
        r.pass(3);
        r.pass(20);
        r.setLimit(77);
        r.excite(9, 1);
      }
      default -> {
        for (int place : new int[] {1, 2, 3, 5, 7, 9}) {
          r.insert(place / 3, place % 3, "qoqo".charAt(place / 3));
        }
        withdrawAll(r, 0, 11);
      }
    }
  }

  private static void undoOfEachPart() {
    for (int part = 0; part < 4; part++) {
      OpinionReactor r = rich();
      overturn(r, part);
      for (int left = 7; left >= 0; left--) {
        C.due("undo of part " + part, r.undo(), left);
      }
      alike("undo of part " + part, r, rich());
      OpinionReactor overturned = rich();
      overturn(overturned, part);
      C.due("whether part " + part + " differs", Checks.view(overturned).equals(Checks.view(rich())), false);
    }
  }

  private static void alike(String name, OpinionReactor r, OpinionReactor twin) {
    C.due("all after " + name, Checks.view(r), Checks.view(twin));
    C.due("racks after " + name, Checks.racks(r), Checks.racks(twin));
    C.due("limit after " + name, r.setLimit(500), twin.setLimit(500));
  }

  private static void neitherUndoneNorSaved() {
    OpinionReactor r = new OpinionReactor();
    r.addClaim(1);
    r.save();
    r.addClaim(2);
    C.refuses("a wrong text", Checks.ARGUMENT, () -> Checks.run(r, "clai;"));
    C.refuses("a failing run", Checks.STATE, () -> Checks.run(r, "pass 1;pass 0"));
    r.describeClaim(1);
    Checks.type(r, "claim 7");
    for (int i = 0; i < 2; i++) {
      if (i == 0) {
        C.due("undo", r.undo(), 1);
      } else {
        C.due("restore", r.restore(), 1);
      }
      C.due("errorPosition after it", r.errorPosition(), 4);
      C.due("failedCommand after it", r.failedCommand(), 1);
      C.due("the line after it", Checks.wholeLine(r), "1+");
      C.due("the text after it", r.append("56".charAt(i)), 8 + i);
    }
    C.refuses("run of a text of three digits", Checks.STATE, r::run);
    C.due("failedCommand of it", r.failedCommand(), 0);
    Checks.type(r, "claim 8");
    r.save();
    C.due("the text after save", r.run(), 1);
    C.due("restore after a run", r.restore(), 1);
    C.refuses("the text is not restored", Checks.ARGUMENT, r::run);
    C.due("errorPosition of no text", r.errorPosition(), 0);
    r.describeRacks();
    r.restore();
    C.due("the line after restore", Checks.wholeLine(r), "a... a... a... a...");
    C.due("errorPosition after restore", r.errorPosition(), 0);
    Checks.run(r, "claim 9");
    r.undo();
    C.refuses("the text is not undone", Checks.ARGUMENT, r::run);
  }

  private static void snapshots() {
    OpinionReactor r = new OpinionReactor();
    C.refuses("restore at first", Checks.STATE, r::restore);
    for (int claims = 0; claims <= 10; claims++) {
      C.due("save of " + claims, r.save(), claims);
      C.due("restore of " + claims, r.restore(), claims);
      if (claims < 10) {
        r.addClaim(5);
      }
    }
    OpinionReactor later = Checks.withClaims(2);
    later.save();
    later.addClaim(9);
    C.due("restore of the first", later.restore(), 2);
    later.addClaim(8);
    later.save();
    later.addClaim(7);
    C.due("restore of the second", later.restore(), 3);
    C.due("its claim", later.weightOf(2), 8);
    C.due("restore again", later.restore(), 3);
    OpinionReactor back = Checks.withClaims(3);
    back.save();
    back.undo();
    back.undo();
    C.due("claimCount after undo of what was saved", back.claimCount(), 1);
    C.due("restore of what was undone", back.restore(), 3);
    C.due("restore of it again", back.restore(), 3);
    OpinionReactor empty = new OpinionReactor();
    empty.save();
    empty.addClaim(3);
    C.due("restore of none", empty.restore(), 0);
    C.due("addClaim after it", empty.addClaim(4), 0);
    C.due("its weight", empty.weightOf(0), 4);
    C.refuses("a refused run", Checks.STATE, () -> Checks.run(empty, "claim 1;claim 0"));
    C.due("restore after a refused run", empty.restore(), 0);
  }

  private static void restoreOfEachPart() {
    for (int part = 0; part < 4; part++) {
      OpinionReactor r = rich();
      C.due("save", r.save(), 10);
      overturn(r, part);
      C.due("restore of part " + part, r.restore(), 10);
      overturn(r, part);
      C.due("restore again of part " + part, r.restore(), 10);
      alike("restore of part " + part, r, rich());
      OpinionReactor undone = rich();
      undone.save();
      overturn(undone, part);
      undone.undo();
      undone.restore();
      alike("undo and restore of part " + part, undone, rich());
    }
  }

  private static void restoreAndUndo() {
    for (int changes = 0; changes <= 9; changes++) {
      OpinionReactor r = Checks.withClaims(9);
      r.save();
      r.pass(1);
      C.due("restore", r.restore(), 9);
      C.due("shiftCount after restore", r.shiftCount(), 0);
      C.refuses("undo after restore", Checks.STATE, r::undo);
      C.due("claimCount after a refused undo", r.claimCount(), 9);
      for (int i = 0; i < changes; i++) {
        r.pass(1);
      }
      int left = Math.min(changes, 8);
      for (int i = 1; i <= left; i++) {
        C.due("undo of a change after restore", r.undo(), left - i);
      }
      C.refuses("undo beyond restore", Checks.STATE, r::undo);
      C.due("shiftCount at last", r.shiftCount(), changes - left);
      C.due("restore again", r.restore(), 9);
      C.due("shiftCount after restore again", r.shiftCount(), 0);
    }
  }
}
