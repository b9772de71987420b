/** Each refused call: its exception (of several the one that the document puts first), and all else as before. */
public final class RefusalTest {
  private static final Checks C = new Checks();
  private static final int LEAST = Integer.MIN_VALUE;
  private static final int MOST = Integer.MAX_VALUE;

  public static void main(String[] args) {
    refusedOfClaims();
    refusedByAFullObject();
    refusedReadings();
    refusedOfRacks();
    refusedOfFlux();
    refusedOfTexts();
    refusedRuns();
    refusedByANewObject();
    C.end();
  }

  // ---- objects to begin with

  /** Something of everything, and some room left: four claims, and a rack of each kind. */
  private static OpinionReactor busy() {
    OpinionReactor r = Checks.withAttacks(4, "01 12 20 33");
    Checks.outcome(() -> Checks.run(r, "limi"));
    Checks.outcome(() -> Checks.run(r, "limit 7;pass 0"));
    r.save();
    r.setLayer(1, 2);
    r.setRack(1, 'q');
    r.setRack(2, 'o');
    r.excite(0, 1000);
    r.setLimit(300);
    r.pass(2);
    r.withdraw(1, 1);
    r.withdraw(2, 0);
    for (int slot = 0; slot < 3; slot++) {
      r.withdraw(3, slot);
    }
    r.excite(2, 7);
    r.undo();
    r.describeClaim(3);
    return r;
  }

  /** All that has an end is at its end: ten claims, full racks but one slot, 16 entries, 8 changes, 60 characters. */
  private static OpinionReactor full() {
    OpinionReactor r = Checks.withClaims(10);
    r.setAttack(0, 9, true);
    r.setLimit(1);
    for (int i = 0; i < 14; i++) {
      r.excite(9, 1000);
    }
    r.setRack(3, 'q');
    r.pass(13);
    r.withdraw(3, 2);
    Checks.type(r, "pass 1;pass 1;pass 1;pass 1;pass 1;pass 1;pass 0001;pass 001");
    return r;
  }

  private static void refused(Class<? extends RuntimeException> want, String what, Checks.Use use) {
    C.refusesUnchanged(what, RefusalTest::busy, want, use);
  }

  private static void refusedByFull(Class<? extends RuntimeException> want, String what, Checks.Use use) {
    C.refusesUnchanged(what + " when full", RefusalTest::full, want, use);
  }

  // ---- what they refuse

  private static void refusedOfClaims() {
    for (int wrong : new int[] {LEAST, -1, 0, 100, 101, 355, MOST}) {
      refused(Checks.ARGUMENT, "addClaim " + wrong, r -> r.addClaim(wrong));
    }
    for (int wrong : new int[] {LEAST, -32, -1, 4, 9, 10, 32, MOST}) {
      for (boolean isAttack : new boolean[] {true, false}) {
        refused(Checks.INDEX, "setAttack from " + wrong, r -> r.setAttack(wrong, 0, isAttack));
        refused(Checks.INDEX, "setAttack on " + wrong, r -> r.setAttack(3, wrong, isAttack));
        refused(Checks.INDEX, "setAttack of itself " + wrong, r -> r.setAttack(wrong, wrong, isAttack));
      }
      refused(Checks.INDEX, "setLayer of " + wrong, r -> r.setLayer(wrong, 0));
      refused(Checks.INDEX, "setLayer of " + wrong + " to 4", r -> r.setLayer(wrong, 4));
    }
    for (int wrong : new int[] {LEAST, -1, 4, 5, MOST}) {
      refused(Checks.INDEX, "setLayer to " + wrong, r -> r.setLayer(3, wrong));
    }
  }

  private static void refusedByAFullObject() {
    refusedByFull(Checks.STATE, "addClaim 1", r -> r.addClaim(1));
    refusedByFull(Checks.STATE, "addClaim 99", r -> r.addClaim(99));
    refusedByFull(Checks.ARGUMENT, "addClaim 0", r -> r.addClaim(0));
    refusedByFull(Checks.ARGUMENT, "addClaim 100", r -> r.addClaim(100));
    refusedByFull(Checks.INDEX, "setAttack from 10", r -> r.setAttack(10, 9, true));
    refusedByFull(Checks.INDEX, "setAttack on 10", r -> r.setAttack(9, 10, true));
    refusedByFull(Checks.INDEX, "setLayer of 10", r -> r.setLayer(10, 3));
    refusedByFull(Checks.INDEX, "setLayer to 4", r -> r.setLayer(9, 4));
    refusedByFull(Checks.STATE, "setRack", r -> r.setRack(3, 'q'));
    refusedByFull(Checks.STATE, "insert", r -> r.insert(3, 1, 'q'));
    refusedByFull(Checks.UNSUPPORTED, "insert of an objection", r -> r.insert(3, 2, 'o'));
    refusedByFull(Checks.MISSING, "withdraw", r -> r.withdraw(3, 2));
    refusedByFull(Checks.INDEX, "excite of 10", r -> r.excite(10, 1));
    refusedByFull(Checks.ARGUMENT, "excite by 1001", r -> r.excite(9, 1001));
    refusedByFull(Checks.ARGUMENT, "pass 21", r -> r.pass(21));
    refusedByFull(Checks.ARGUMENT, "setLimit 10000", r -> r.setLimit(10000));
    refusedByFull(Checks.STATE, "append", r -> r.append('1'));
    refusedByFull(Checks.ARGUMENT, "append 127", r -> r.append((char) 127));
    refusedByFull(Checks.STATE, "restore", OpinionReactor::restore);
    refusedByFull(Checks.MISSING, "logKind 16", r -> r.logKind(16));
    refusedByFull(Checks.MISSING, "logShift 16", r -> r.logShift(16));
    refusedByFull(Checks.MISSING, "claimAtRank 10", r -> r.claimAtRank(10));
    refusedByFull(Checks.ARGUMENT, "isPosition 1024", r -> r.isPosition(1024));
    OpinionReactor r = full();
    C.due("the full text runs", r.run(), 8);
    C.due("shifts of the full text", r.shiftCount(), 21);
  }

  private static void refusedReadings() {
    for (int wrong : new int[] {LEAST, -32, -1, 4, 9, 10, 32, MOST}) {
      refused(Checks.INDEX, "weightOf " + wrong, r -> r.weightOf(wrong));
      refused(Checks.INDEX, "layerOf " + wrong, r -> r.layerOf(wrong));
      refused(Checks.INDEX, "attacks from " + wrong, r -> r.attacks(wrong, 3));
      refused(Checks.INDEX, "attacks on " + wrong, r -> r.attacks(3, wrong));
      refused(Checks.INDEX, "attacks of itself " + wrong, r -> r.attacks(wrong, wrong));
      refused(Checks.INDEX, "isRejected " + wrong, r -> r.isRejected(wrong));
      refused(Checks.INDEX, "circleSize " + wrong, r -> r.circleSize(wrong));
      refused(Checks.INDEX, "fluxOf " + wrong, r -> r.fluxOf(wrong));
      refused(Checks.INDEX, "fluxBits " + wrong, r -> r.fluxBits(wrong));
      refused(Checks.INDEX, "describeClaim " + wrong, r -> r.describeClaim(wrong));
      refused(Checks.MISSING, "claimAtRank " + wrong, r -> r.claimAtRank(wrong));
      for (int length : new int[] {-1, 0, 999, 1000}) {
        refused(Checks.INDEX, "chains from " + wrong, r -> r.chains(wrong, 3, length));
        refused(Checks.INDEX, "chains to " + wrong, r -> r.chains(3, wrong, length));
        refused(Checks.INDEX, "chainsBySteps from " + wrong, r -> r.chainsBySteps(wrong, 3, length));
        refused(Checks.INDEX, "chainsBySteps to " + wrong, r -> r.chainsBySteps(3, wrong, length));
      }
    }
    for (int wrong : new int[] {LEAST, -1, 1000, 1001, MOST}) {
      refused(Checks.ARGUMENT, "chains of length " + wrong, r -> r.chains(3, 3, wrong));
      refused(Checks.ARGUMENT, "chainsBySteps of length " + wrong, r -> r.chainsBySteps(3, 3, wrong));
    }
    for (int wrong : new int[] {LEAST, LEAST + 1, -1, 16, 17, 32, 1024, MOST}) {
      refused(Checks.ARGUMENT, "isPosition " + wrong, r -> r.isPosition(wrong));
    }
    for (int wrong : new int[] {LEAST, -1, 3, 19, MOST}) {
      refused(Checks.INDEX, "lineAt " + wrong, r -> r.lineAt(wrong));
    }
  }

  private static void refusedOfRacks() {
    for (int wrong : new int[] {LEAST, -1, 4, 5, MOST}) {
      for (char letter : new char[] {'q', 'o', 'a', 'x'}) {
        refused(Checks.INDEX, "setRack of layer " + wrong, r -> r.setRack(wrong, letter));
        refused(Checks.INDEX, "insert into layer " + wrong, r -> r.insert(wrong, 0, letter));
        refused(Checks.INDEX, "insert into both " + wrong, r -> r.insert(wrong, wrong, letter));
        refused(Checks.INDEX, "insert into slot " + wrong, r -> r.insert(3, wrong, letter));
      }
      refused(Checks.INDEX, "withdraw of layer " + wrong, r -> r.withdraw(wrong, 0));
      refused(Checks.INDEX, "withdraw of slot " + wrong, r -> r.withdraw(0, wrong));
      refused(Checks.INDEX, "remarkAt of layer " + wrong, r -> r.remarkAt(wrong, 0));
      refused(Checks.INDEX, "remarkAt of slot " + wrong, r -> r.remarkAt(0, wrong));
      refused(Checks.INDEX, "depthOf " + wrong, r -> r.depthOf(wrong));
    }
    refused(Checks.INDEX, "insert into slot 3", r -> r.insert(0, 3, 'q'));
    refused(Checks.INDEX, "insert into slot 3 of the last layer", r -> r.insert(3, 3, 'q'));
    refused(Checks.INDEX, "withdraw of slot 3", r -> r.withdraw(0, 3));
    refused(Checks.INDEX, "remarkAt of slot 3", r -> r.remarkAt(0, 3));
    for (char wrong : new char[] {0, '.', 'p', 'r', 'n', 'b', '`', 'Q', 'O', 'A', 255, 65535}) {
      refused(Checks.ARGUMENT, "setRack to " + (int) wrong, r -> r.setRack(3, wrong));
      refused(Checks.ARGUMENT, "setRack of a rack in use to " + (int) wrong, r -> r.setRack(0, wrong));
      refused(Checks.ARGUMENT, "insert of " + (int) wrong, r -> r.insert(3, 0, wrong));
      refused(Checks.ARGUMENT, "insert into a used slot of " + (int) wrong, r -> r.insert(0, 0, wrong));
    }
    refused(Checks.ARGUMENT, "insert of a kind of rack", r -> r.insert(3, 0, 'a'));
    for (char kind : new char[] {'q', 'o', 'a'}) {
      for (int layer = 0; layer < 3; layer++) {
        int used = layer;
        refused(Checks.STATE, "setRack of a rack in use", r -> r.setRack(used, kind));
      }
    }
    for (char remark : new char[] {'q', 'o'}) {
      refused(Checks.STATE, "insert into a used slot of all", r -> r.insert(0, 2, remark));
      refused(Checks.STATE, "insert into a used slot of questions", r -> r.insert(1, 0, remark));
      refused(Checks.STATE, "insert into a used slot of objections", r -> r.insert(2, 2, remark));
    }
    refused(Checks.UNSUPPORTED, "an objection among questions", r -> r.insert(1, 1, 'o'));
    refused(Checks.UNSUPPORTED, "a question among objections", r -> r.insert(2, 0, 'q'));
    refused(Checks.MISSING, "withdraw among questions", r -> r.withdraw(1, 1));
    refused(Checks.MISSING, "withdraw among objections", r -> r.withdraw(2, 0));
    refused(Checks.MISSING, "withdraw of an empty rack", r -> r.withdraw(3, 2));
  }

  private static void refusedOfFlux() {
    for (int wrong : new int[] {LEAST, -1, 4, 10, MOST}) {
      for (int amount : new int[] {0, 1, 1000, 1001}) {
        refused(Checks.INDEX, "excite of " + wrong, r -> r.excite(wrong, amount));
      }
    }
    for (int wrong : new int[] {LEAST, -1, 0, 1001, 1002, MOST}) {
      refused(Checks.ARGUMENT, "excite by " + wrong, r -> r.excite(3, wrong));
    }
    for (int wrong : new int[] {LEAST, -1, 0, 21, 22, MOST}) {
      refused(Checks.ARGUMENT, "pass " + wrong, r -> r.pass(wrong));
    }
    for (int wrong : new int[] {LEAST, -1, 0, 10000, 10001, MOST}) {
      refused(Checks.ARGUMENT, "setLimit " + wrong, r -> r.setLimit(wrong));
      refused(Checks.ARGUMENT, "shiftsUntilBelow " + wrong, r -> r.shiftsUntilBelow(wrong));
    }
    int entries = busy().logCount();
    for (int wrong : new int[] {LEAST, -1, entries, 16, MOST}) {
      refused(Checks.MISSING, "logShift " + wrong, r -> r.logShift(wrong));
      refused(Checks.MISSING, "logKind " + wrong, r -> r.logKind(wrong));
    }
    C.due("the entries of busy fill the log in part", entries > 0 && entries < 16, true);
    Checks.Maker steady = RefusalTest::steady;
    C.refusesUnchanged("shiftsUntilBelow in vain", steady, Checks.MISSING, r -> r.shiftsUntilBelow(899));
    C.refusesUnchanged("shiftsUntilBelow 10000", steady, Checks.ARGUMENT, r -> r.shiftsUntilBelow(10000));
    C.refusesUnchanged("shiftsUntilBelow 0", steady, Checks.ARGUMENT, r -> r.shiftsUntilBelow(0));
  }

  /** Its power stays what it is: what each claim loses, the two that it attacks get. */
  private static OpinionReactor steady() {
    OpinionReactor r = Checks.withAttacks(3, "01 02 10 12 20 21");
    r.excite(0, 900);
    return r;
  }

  private static void refusedOfTexts() {
    Checks.Maker typing = () -> {
      OpinionReactor r = busy();
      Checks.type(r, "claim 9");
      return r;
    };
    for (char wrong : new char[] {0, 10, 31, 127, 128, 160, 255, 256, 288, 65535}) {
      C.refusesUnchanged("append " + (int) wrong, typing, Checks.ARGUMENT, r -> r.append(wrong));
      OpinionReactor r = typing.make();
      C.refuses("append " + (int) wrong, Checks.ARGUMENT, () -> r.append(wrong));
      C.due("the text after it", r.append('8'), 8);
      C.due("the commands after it", r.run(), 1);
      C.due("the weight after it", r.weightOf(4), 98);
    }
  }

  /** A run that is refused sets one of the two, and clears the text; nothing else differs. */
  private static void refusedRun(String text, Class<? extends RuntimeException> want, int error, int failed) {
    OpinionReactor r = busy();
    C.refuses("run of " + text, want, () -> Checks.run(r, text));
    C.due("errorPosition after " + text, r.errorPosition(), error);
    C.due("failedCommand after " + text, r.failedCommand(), failed);
    C.due("all else after " + text, withoutMarks(Checks.whole(r)), withoutMarks(Checks.whole(busy())));
    OpinionReactor other = busy();
    C.refuses("run again of " + text, want, () -> Checks.run(other, text));
    C.due("the limit after " + text, other.setLimit(1), 300);
  }

  private static String withoutMarks(String whole) {
    return whole.replaceAll(" error .* line ", " line ");
  }

  private static void refusedRuns() {
    C.due("errorPosition of busy", busy().errorPosition(), 4);
    C.due("failedCommand of busy", busy().failedCommand(), 1);
    refusedRun("", Checks.ARGUMENT, 0, 1);
    refusedRun(";", Checks.ARGUMENT, 0, 1);
    refusedRun("claim 5;", Checks.ARGUMENT, 8, 1);
    refusedRun("claim 5;limit 6;pass", Checks.ARGUMENT, 20, 1);
    refusedRun("claim 0;claim", Checks.ARGUMENT, 13, 1);
    refusedRun("claim 0", Checks.STATE, 4, 0);
    refusedRun("claim 5;attack 4>0;layer 4=4;pass 0", Checks.STATE, 4, 2);
    refusedRun("excite 0+1000;limit 1;pass 20;insert 30q;draw 31", Checks.STATE, 4, 3);
    refusedRun("rack 3o;insert 30o;draw 20;calm 0>1;excite 9+1", Checks.STATE, 4, 2);
    refusedRun("rack 3q;insert 30o", Checks.STATE, 4, 1);
  }

  private static void refusedByANewObject() {
    Checks.Maker made = OpinionReactor::new;
    C.refusesUnchanged("undo of none", made, Checks.STATE, OpinionReactor::undo);
    C.refusesUnchanged("restore of none", made, Checks.STATE, OpinionReactor::restore);
    C.refusesUnchanged("errorPosition of none", made, Checks.MISSING, OpinionReactor::errorPosition);
    C.refusesUnchanged("failedCommand of none", made, Checks.MISSING, OpinionReactor::failedCommand);
    C.refusesUnchanged("meanWeight of none", made, Checks.ARITHMETIC, OpinionReactor::meanWeight);
    C.refusesUnchanged("meanWeightBits of none", made, Checks.ARITHMETIC, OpinionReactor::meanWeightBits);
    C.refusesUnchanged("lineAt of none", made, Checks.INDEX, r -> r.lineAt(0));
    C.refusesUnchanged("logShift of none", made, Checks.MISSING, r -> r.logShift(0));
    C.refusesUnchanged("logKind of none", made, Checks.MISSING, r -> r.logKind(0));
    C.refusesUnchanged("claimAtRank of none", made, Checks.MISSING, r -> r.claimAtRank(0));
    C.refusesUnchanged("isPosition of none", made, Checks.ARGUMENT, r -> r.isPosition(1));
    C.refusesUnchanged("weightOf of none", made, Checks.INDEX, r -> r.weightOf(0));
    C.refusesUnchanged("layerOf of none", made, Checks.INDEX, r -> r.layerOf(0));
    C.refusesUnchanged("setLayer of none", made, Checks.INDEX, r -> r.setLayer(0, 0));
    C.refusesUnchanged("setAttack of none", made, Checks.INDEX, r -> r.setAttack(0, 0, true));
    C.refusesUnchanged("attacks of none", made, Checks.INDEX, r -> r.attacks(0, 0));
    C.refusesUnchanged("isRejected of none", made, Checks.INDEX, r -> r.isRejected(0));
    C.refusesUnchanged("circleSize of none", made, Checks.INDEX, r -> r.circleSize(0));
    C.refusesUnchanged("chains of none", made, Checks.INDEX, r -> r.chains(0, 0, 0));
    C.refusesUnchanged("chainsBySteps of none", made, Checks.INDEX, r -> r.chainsBySteps(0, 0, 0));
    C.refusesUnchanged("excite of none", made, Checks.INDEX, r -> r.excite(0, 1));
    C.refusesUnchanged("fluxOf of none", made, Checks.INDEX, r -> r.fluxOf(0));
    C.refusesUnchanged("fluxBits of none", made, Checks.INDEX, r -> r.fluxBits(0));
    C.refusesUnchanged("describeClaim of none", made, Checks.INDEX, r -> r.describeClaim(0));
    C.refusesUnchanged("withdraw of none", made, Checks.MISSING, r -> r.withdraw(0, 0));
    OpinionReactor r = new OpinionReactor();
    C.due("a shift without claims", r.pass(20), 0);
    C.due("shiftCount without claims", r.shiftCount(), 20);
    C.due("shiftsUntilBelow without claims", r.shiftsUntilBelow(1), 0);
    C.due("isConsistent without claims", r.isConsistent(), true);
  }
}
