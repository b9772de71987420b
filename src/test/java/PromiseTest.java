/** For each promise of the document: ordinary inputs, the edges that it names, and wrong inputs. */
public final class PromiseTest {
  private static final Checks C = new Checks();
  private static final int[] WRONG_LAYERS = {-1, 4, Integer.MIN_VALUE, Integer.MAX_VALUE};
  private static final int[] WRONG_SLOTS = {-1, 3, Integer.MIN_VALUE, Integer.MAX_VALUE};

  // Above any number of claims that the tests use, where a shift by the claim would wrap around.
  private static final int[] WRONG_CLAIMS = {-1, 10, 32, Integer.MIN_VALUE, Integer.MAX_VALUE};

  public static void main(String[] args) {
    promise1NewObject();
    promise2AddClaim();
    promise3SetAttack();
    promise4SetLayer();
    promises5To8Reading();
    promises9To12Accepting();
    promises13To16Positions();
    promise17IsPosition();
    promises18To20Circles();
    promises21And22Chains();
    promise23SetRack();
    promise24Insert();
    promise25Withdraw();
    promises26And27Remarks();
    promise28Excite();
    promise29PassFlux();
    promise29PassScrams();
    promise30SetLimit();
    promises31To34Flux();
    promise35ShiftsUntilBelow();
    promises36And37Counts();
    promise38ClaimAtRank();
    promises39To41Log();
    promise42Append();
    promise43RunCommands();
    promise43RunFailing();
    promise44ErrorPosition();
    promise45FailedCommand();
    promise46DescribeClaim();
    promise47DescribeRacks();
    promise48LineAt();
    promises49And50MeanWeight();
    promise51IsConsistent();
    promise52Undo();
    promise52UndoOfEachChange();
    promise53Save();
    promise54Restore();
    C.end();
  }

  private static void promise1NewObject() {
    OpinionReactor r = new OpinionReactor();
    C.due("claimCount of a new object", r.claimCount(), 0);
    C.due("racks of a new object", Checks.racks(r), "a... a... a... a...");
    C.due("acceptedBits of a new object", r.acceptedBits(), 0);
    C.due("acceptedBitsByLabels of a new object", r.acceptedBitsByLabels(), 0);
    C.due("undecidedCount of a new object", r.undecidedCount(), 0);
    C.due("positions of a new object", r.positions(), 1);
    C.due("positionsByDeciding of a new object", r.positionsByDeciding(), 1);
    C.due("heaviestWeight of a new object", r.heaviestWeight(), 0);
    C.due("heaviestBits of a new object", r.heaviestBits(), 0);
    C.due("circles of a new object", r.circles(), 0);
    C.due("circlesByReach of a new object", r.circlesByReach(), 0);
    C.due("power of a new object", r.power(), 0f);
    C.due("powerBits of a new object", r.powerBits(), 0);
    C.due("shiftCount of a new object", r.shiftCount(), 0);
    C.due("scrams of a new object", r.scrams(), 0);
    C.due("logCount of a new object", r.logCount(), 0);
    C.due("limit of a new object", r.setLimit(5), 1000);
    C.due("isConsistent of a new object", r.isConsistent(), true);
    OpinionReactor other = new OpinionReactor();
    r.addClaim(1);
    C.due("claimCount of another object", other.claimCount(), 0);
  }

  private static void promise2AddClaim() {
    OpinionReactor r = new OpinionReactor();
    for (int wrong : new int[] {0, 100, -1, Integer.MIN_VALUE, Integer.MAX_VALUE}) {
      C.refusesUnchanged("addClaim " + wrong, OpinionReactor::new, Checks.ARGUMENT, x -> x.addClaim(wrong));
      C.refusesUnchanged("the 11th claim " + wrong, () -> Checks.withClaims(10), Checks.ARGUMENT,
          x -> x.addClaim(wrong));
    }
    C.due("addClaim(1)", r.addClaim(1), 0);
    C.due("addClaim(99)", r.addClaim(99), 1);
    C.due("weight of the second claim", r.weightOf(1), 99);
    r.setAttack(0, 0, true);
    for (int i = 2; i < 10; i++) {
      C.due("addClaim " + i, r.addClaim(i), i);
      C.due("layer of a new claim", r.layerOf(i), 0);
      C.due("flux of a new claim", r.fluxOf(i), 0f);
      for (int k = 0; k <= i; k++) {
        C.due("attack of a new claim", r.attacks(i, k), false);
        C.due("attack on a new claim", r.attacks(k, i), false);
      }
    }
    C.refusesUnchanged("the 11th claim", () -> Checks.withClaims(10), Checks.STATE, x -> x.addClaim(1));
  }

  private static void promise3SetAttack() {
    OpinionReactor r = Checks.withClaims(3);
    C.due("a first attack", r.setAttack(0, 2, true), false);
    C.due("the same attack", r.setAttack(0, 2, true), true);
    C.due("attacks(0, 2)", r.attacks(0, 2), true);
    C.due("attacks(2, 0)", r.attacks(2, 0), false);
    C.due("the attack's end", r.setAttack(0, 2, false), true);
    C.due("no attack's end", r.setAttack(0, 2, false), false);
    C.due("attacks(0, 2) at last", r.attacks(0, 2), false);
    C.due("an attack on itself", r.setAttack(1, 1, true), false);
    C.due("attacks(1, 1)", r.attacks(1, 1), true);
    Checks.Maker made = () -> Checks.withAttacks(3, "01");
    for (int wrong : new int[] {-1, 3, 10, 33, Integer.MAX_VALUE, Integer.MIN_VALUE}) {
      C.refusesUnchanged("setAttack from " + wrong, made, Checks.INDEX, x -> x.setAttack(wrong, 0, true));
      C.refusesUnchanged("setAttack on " + wrong, made, Checks.INDEX, x -> x.setAttack(0, wrong, true));
      C.refuses("setAttack false on " + wrong, Checks.INDEX, () -> r.setAttack(0, wrong, false));
    }
  }

  private static void promise4SetLayer() {
    OpinionReactor r = Checks.withClaims(2);
    C.due("setLayer(1, 3)", r.setLayer(1, 3), 0);
    C.due("setLayer(1, 0)", r.setLayer(1, 0), 3);
    C.due("setLayer(1, 2)", r.setLayer(1, 2), 0);
    C.due("setLayer(1, 2) again", r.setLayer(1, 2), 2);
    C.due("layerOf(0)", r.layerOf(0), 0);
    C.due("layerOf(1)", r.layerOf(1), 2);
    Checks.Maker made = () -> Checks.withClaims(2);
    for (int wrong : WRONG_LAYERS) {
      C.refusesUnchanged("setLayer to " + wrong, made, Checks.INDEX, x -> x.setLayer(0, wrong));
    }
    C.refusesUnchanged("setLayer of 2", made, Checks.INDEX, x -> x.setLayer(2, 0));
    C.refusesUnchanged("setLayer of -1", made, Checks.INDEX, x -> x.setLayer(-1, 0));
  }

  private static void promises5To8Reading() {
    OpinionReactor r = Checks.withAttacks(3, "01 12");
    r.setLayer(2, 1);
    C.due("claimCount", r.claimCount(), 3);
    C.due("weightOf(0)", r.weightOf(0), 1);
    C.due("weightOf(2)", r.weightOf(2), 3);
    C.due("layerOf(1)", r.layerOf(1), 0);
    C.due("layerOf(2)", r.layerOf(2), 1);
    C.due("attacks(0, 1)", r.attacks(0, 1), true);
    C.due("attacks(1, 2)", r.attacks(1, 2), true);
    C.due("attacks(0, 2)", r.attacks(0, 2), false);
    C.due("attacks(0, 0)", r.attacks(0, 0), false);
    for (int wrong : new int[] {-1, 3, 9, 10, Integer.MAX_VALUE, Integer.MIN_VALUE}) {
      C.refuses("weightOf " + wrong, Checks.INDEX, () -> r.weightOf(wrong));
      C.refuses("layerOf " + wrong, Checks.INDEX, () -> r.layerOf(wrong));
      C.refuses("attacks from " + wrong, Checks.INDEX, () -> r.attacks(wrong, 0));
      C.refuses("attacks on " + wrong, Checks.INDEX, () -> r.attacks(0, wrong));
    }
    OpinionReactor full = Checks.withClaims(10);
    C.due("claimCount of a full one", full.claimCount(), 10);
    C.due("weightOf(9)", full.weightOf(9), 10);
    C.refuses("weightOf(10)", Checks.INDEX, () -> full.weightOf(10));
  }

  private static void accepted(String name, OpinionReactor r, int accepted, int rejected) {
    C.due("acceptedBits of " + name, r.acceptedBits(), accepted);
    C.due("acceptedBitsByLabels of " + name, r.acceptedBitsByLabels(), accepted);
    for (int i = 0; i < r.claimCount(); i++) {
      C.due("isRejected(" + i + ") of " + name, r.isRejected(i), (rejected >> i & 1) == 1);
    }
    int undecided = r.claimCount() - Integer.bitCount(accepted | rejected);
    C.due("undecidedCount of " + name, r.undecidedCount(), undecided);
  }

  private static void promises9To12Accepting() {
    accepted("no attacks", Checks.withClaims(3), 0b111, 0);
    accepted("a row", Checks.withAttacks(4, "01 12 23"), 0b0101, 0b1010);
    accepted("a row backwards", Checks.withAttacks(4, "32 21 10"), 0b1010, 0b0101);
    accepted("a pair", Checks.withAttacks(2, "01 10"), 0, 0);
    accepted("a claim against itself", Checks.withAttacks(2, "00"), 0b10, 0);
    accepted("a rejected claim against itself", Checks.withAttacks(2, "00 10"), 0b10, 0b01);
    accepted("a pair, one of it attacked", Checks.withAttacks(4, "01 10 20 13"), 0b0110, 0b1001);
    accepted("two attackers, one rejected", Checks.withAttacks(5, "01 14 34 43"), 0b00101, 0b00010);
    accepted("two attackers, both rejected", Checks.withAttacks(5, "01 02 14 24 43"), 0b10001, 0b01110);
    accepted("ten in a row", Checks.withAttacks(10, "98 87 76 65 54 43 32 21 10"), 0x2AA, 0x155);
    OpinionReactor r = Checks.withAttacks(3, "01");
    for (int wrong : new int[] {-1, 3, 32, Integer.MAX_VALUE, Integer.MIN_VALUE}) {
      C.refuses("isRejected " + wrong, Checks.INDEX, () -> r.isRejected(wrong));
    }
  }

  private static void held(String name, OpinionReactor r, int number, int weight, int heaviest) {
    C.due("positions of " + name, r.positions(), number);
    C.due("positionsByDeciding of " + name, r.positionsByDeciding(), number);
    C.due("heaviestWeight of " + name, r.heaviestWeight(), weight);
    C.due("heaviestBits of " + name, r.heaviestBits(), heaviest);
  }

  private static void promises13To16Positions() {
    held("no attacks", Checks.withClaims(3), 8, 6, 0b111);
    held("ten without attacks", Checks.withClaims(10), 1024, 55, 1023);
    held("a claim against itself", Checks.withAttacks(1, "00"), 1, 0, 0);
    held("an attack", Checks.withAttacks(2, "01"), 2, 1, 0b01);
    held("a pair", Checks.withAttacks(2, "01 10"), 3, 2, 0b10);
    held("a row", Checks.withAttacks(3, "01 12"), 3, 4, 0b101);
    held("a ring of three", Checks.withAttacks(3, "01 12 20"), 1, 0, 0);
    held("a ring of four", Checks.withAttacks(4, "01 12 23 30"), 3, 6, 0b1010);
    OpinionReactor equal = new OpinionReactor();
    for (int weight : new int[] {1, 3, 2, 2}) {
      equal.addClaim(weight);
    }
    // {0, 1} and {2, 3} weigh the same; the lowest claim that is in one of them alone is 0.
    for (String attack : new String[] {"02", "20", "03", "30", "12", "21", "13", "31"}) {
      equal.setAttack(attack.charAt(0) - '0', attack.charAt(1) - '0', true);
    }
    held("equal weights", equal, 7, 4, 0b0011);
    OpinionReactor shared = new OpinionReactor();
    for (int weight : new int[] {5, 2, 2, 1}) {
      shared.addClaim(weight);
    }
    // 0 is in both of the heaviest, so 1 and 2 decide, of which the lower one counts.
    shared.setAttack(1, 2, true);
    shared.setAttack(2, 1, true);
    held("a shared claim", shared, 12, 8, 0b1011);
    OpinionReactor heavier = new OpinionReactor();
    heavier.addClaim(3);
    heavier.addClaim(4);
    heavier.setAttack(0, 1, true);
    heavier.setAttack(1, 0, true);
    held("a heavier higher claim", heavier, 3, 4, 0b10);
  }

  private static void promise17IsPosition() {
    OpinionReactor r = Checks.withAttacks(4, "01 12 33");
    for (int set = 0; set < 16; set++) {
      C.due("isPosition(" + set + ")", r.isPosition(set), set == 0 || set == 1 || set == 5);
    }
    for (int wrong : new int[] {-1, 16, 17, 1024, Integer.MIN_VALUE, Integer.MAX_VALUE}) {
      C.refuses("isPosition " + wrong, Checks.ARGUMENT, () -> r.isPosition(wrong));
    }
    OpinionReactor none = new OpinionReactor();
    C.due("isPosition(0) of none", none.isPosition(0), true);
    C.refuses("isPosition(1) of none", Checks.ARGUMENT, () -> none.isPosition(1));
    OpinionReactor full = Checks.withClaims(10);
    C.due("isPosition(1023) of ten", full.isPosition(1023), true);
    C.refuses("isPosition(1024) of ten", Checks.ARGUMENT, () -> full.isPosition(1024));
  }

  private static void circled(String name, OpinionReactor r, int number, String sizes) {
    C.due("circles of " + name, r.circles(), number);
    C.due("circlesByReach of " + name, r.circlesByReach(), number);
    for (int i = 0; i < sizes.length(); i++) {
      C.due("circleSize(" + i + ") of " + name, r.circleSize(i), sizes.charAt(i) - '0');
    }
  }

  private static void promises18To20Circles() {
    circled("no attacks", Checks.withClaims(3), 3, "111");
    circled("a row", Checks.withAttacks(4, "01 12 23"), 4, "1111");
    circled("a ring", Checks.withAttacks(4, "01 12 23 30"), 1, "4444");
    circled("a claim against itself", Checks.withAttacks(2, "00"), 2, "11");
    circled("two rings and a bridge", Checks.withAttacks(6, "03 30 15 51 31 24"), 4, "221212");
    circled("two rings and two bridges", Checks.withAttacks(6, "03 30 15 51 31 14 40"), 2, "551555");
    circled("a long ring", Checks.withAttacks(9, "08 87 76 65 54 43 32 21 10"), 1, "999999999");
    OpinionReactor r = Checks.withClaims(2);
    for (int wrong : new int[] {-1, 2, 10, Integer.MAX_VALUE, Integer.MIN_VALUE}) {
      C.refuses("circleSize " + wrong, Checks.INDEX, () -> r.circleSize(wrong));
    }
    C.refuses("circleSize(0) of none", Checks.INDEX, () -> new OpinionReactor().circleSize(0));
  }

  private static void chained(OpinionReactor r, int first, int last, int length, int number) {
    String call = "(" + first + ", " + last + ", " + length + ")";
    C.due("chains" + call, r.chains(first, last, length), number);
    C.due("chainsBySteps" + call, r.chainsBySteps(first, last, length), number);
  }

  private static void promises21And22Chains() {
    OpinionReactor row = Checks.withAttacks(3, "01 12");
    chained(row, 0, 0, 0, 1);
    chained(row, 0, 1, 0, 0);
    chained(row, 0, 1, 1, 1);
    chained(row, 1, 0, 1, 0);
    chained(row, 0, 2, 2, 1);
    chained(row, 0, 2, 3, 0);
    OpinionReactor loop = Checks.withAttacks(2, "00 01 11");
    chained(loop, 0, 1, 999, 999);
    chained(loop, 0, 0, 999, 1);
    chained(loop, 1, 0, 999, 0);
    OpinionReactor both = Checks.withAttacks(2, "00 01 10 11");
    chained(both, 0, 1, 20, 1 << 19);
    chained(both, 0, 1, 21, (1 << 20) - 1000003);
    chained(both, 1, 1, 999, power(2, 998));
    OpinionReactor ring = Checks.withAttacks(3, "01 12 20");
    chained(ring, 0, 0, 999, 1);
    chained(ring, 0, 1, 998, 0);
    chained(ring, 0, 2, 998, 1);
    for (int wrong : WRONG_CLAIMS) {
      C.refuses("chains from " + wrong, Checks.INDEX, () -> ring.chains(wrong, 0, 1000));
      C.refuses("chains to " + wrong, Checks.INDEX, () -> ring.chains(0, wrong, -1));
      C.refuses("chainsBySteps from " + wrong, Checks.INDEX, () -> ring.chainsBySteps(wrong, 0, 1000));
      C.refuses("chainsBySteps to " + wrong, Checks.INDEX, () -> ring.chainsBySteps(0, wrong, -1));
    }
    C.refuses("chains to 3", Checks.INDEX, () -> ring.chains(0, 3, 1));
    C.refuses("chainsBySteps from 3", Checks.INDEX, () -> ring.chainsBySteps(3, 0, 1));
    for (int wrong : new int[] {-1, 1000, Integer.MAX_VALUE, Integer.MIN_VALUE}) {
      C.refuses("chains of length " + wrong, Checks.ARGUMENT, () -> ring.chains(0, 0, wrong));
      C.refuses("chainsBySteps of length " + wrong, Checks.ARGUMENT, () -> ring.chainsBySteps(0, 0, wrong));
    }
  }

  private static int power(int base, int exponent) {
    long result = 1;
    for (int i = 0; i < exponent; i++) {
      result = result * base % 1000003;
    }
    return (int) result;
  }

  /** Layer 0 holds an objection among objections, layer 1 a question among questions, layer 3 nothing. */
  private static OpinionReactor racked() {
    OpinionReactor r = new OpinionReactor();
    r.setRack(0, 'o');
    r.setRack(1, 'q');
    r.insert(0, 2, 'o');
    r.insert(1, 0, 'q');
    return r;
  }

  private static void promise23SetRack() {
    OpinionReactor r = new OpinionReactor();
    C.due("setRack(0, q)", r.setRack(0, 'q'), 'a');
    C.due("setRack(0, o)", r.setRack(0, 'o'), 'q');
    C.due("setRack(0, o) again", r.setRack(0, 'o'), 'o');
    C.due("setRack(3, a)", r.setRack(3, 'a'), 'a');
    C.due("setRack(3, q)", r.setRack(3, 'q'), 'a');
    C.due("racks", Checks.racks(r), "o... a... a... q...");
    r.insert(0, 2, 'o');
    C.refuses("setRack of a rack in use", Checks.STATE, () -> r.setRack(0, 'a'));
    C.refuses("setRack to its own kind", Checks.STATE, () -> r.setRack(0, 'o'));
    Checks.Maker made = PromiseTest::racked;
    C.refusesUnchanged("setRack of objections", made, Checks.STATE, x -> x.setRack(0, 'q'));
    C.refusesUnchanged("setRack of questions", made, Checks.STATE, x -> x.setRack(1, 'a'));
    C.refuses("setRack with a wrong kind of a rack in use", Checks.ARGUMENT, () -> r.setRack(0, '.'));
    for (char wrong : new char[] {'.', 'A', 'p', 'Q', ' ', 0, 255, 65535}) {
      C.refusesUnchanged("setRack to " + (int) wrong, made, Checks.ARGUMENT, x -> x.setRack(3, wrong));
      C.refuses("setRack to " + (int) wrong, Checks.ARGUMENT, () -> r.setRack(1, wrong));
    }
    for (int wrong : WRONG_LAYERS) {
      C.refusesUnchanged("setRack of " + wrong, made, Checks.INDEX, x -> x.setRack(wrong, '.'));
    }
    C.due("racks after refusals", Checks.racks(r), "o..o a... a... q...");
    r.withdraw(0, 2);
    C.due("setRack of an emptied rack", r.setRack(0, 'a'), 'o');
    C.due("log without racks", Checks.log(r), "w0 i0");
  }

  private static void promise24Insert() {
    OpinionReactor r = new OpinionReactor();
    C.due("insert(0, 0, q)", r.insert(0, 0, 'q'), 2);
    C.due("insert(0, 2, o)", r.insert(0, 2, 'o'), 5);
    C.due("insert(0, 1, o)", r.insert(0, 1, 'o'), 8);
    C.due("insert(3, 2, o)", r.insert(3, 2, 'o'), 3);
    C.due("racks", Checks.racks(r), "aqoo a... a... a..o");
    r.setRack(1, 'q');
    r.setRack(2, 'o');
    C.refuses("an objection among questions", Checks.UNSUPPORTED, () -> r.insert(1, 0, 'o'));
    C.refuses("a question among objections", Checks.UNSUPPORTED, () -> r.insert(2, 0, 'q'));
    C.due("a question among questions", r.insert(1, 0, 'q'), 2);
    C.due("an objection among objections", r.insert(2, 0, 'o'), 3);
    C.due("log of inserts", Checks.log(r), "i0 i0 i0 i0 i0 i0");
    Checks.Maker made = PromiseTest::racked;
    C.refusesUnchanged("insert of a wrong objection", made, Checks.UNSUPPORTED, x -> x.insert(1, 1, 'o'));
    C.refusesUnchanged("insert of a wrong question", made, Checks.UNSUPPORTED, x -> x.insert(0, 0, 'q'));
    C.refusesUnchanged("insert into a used slot", made, Checks.STATE, x -> x.insert(0, 2, 'o'));
    C.refusesUnchanged("insert of another remark there", made, Checks.STATE, x -> x.insert(0, 2, 'q'));
    for (char wrong : new char[] {'a', '.', 'Q', 'O', 0, 65535}) {
      C.refusesUnchanged("insert " + (int) wrong, made, Checks.ARGUMENT, x -> x.insert(3, 0, wrong));
      C.refuses("insert into a used slot " + (int) wrong, Checks.ARGUMENT, () -> r.insert(0, 0, wrong));
    }
    for (int wrong : WRONG_LAYERS) {
      C.refusesUnchanged("insert into layer " + wrong, made, Checks.INDEX, x -> x.insert(wrong, 0, 'a'));
    }
    for (int wrong : WRONG_SLOTS) {
      C.refusesUnchanged("insert into slot " + wrong, made, Checks.INDEX, x -> x.insert(0, wrong, 'a'));
    }
  }

  private static void promise25Withdraw() {
    OpinionReactor r = new OpinionReactor();
    r.insert(1, 0, 'q');
    r.insert(1, 2, 'o');
    C.refuses("withdraw of nothing", Checks.MISSING, () -> r.withdraw(1, 1));
    C.refuses("withdraw of another layer", Checks.MISSING, () -> r.withdraw(0, 0));
    C.due("withdraw(1, 2)", r.withdraw(1, 2), 'o');
    C.due("remarkAt(1, 2)", r.remarkAt(1, 2), '.');
    C.due("depthOf(1)", r.depthOf(1), 2);
    C.due("withdraw(1, 0)", r.withdraw(1, 0), 'q');
    C.refuses("withdraw again", Checks.MISSING, () -> r.withdraw(1, 0));
    C.due("log of withdrawals", Checks.log(r), "w0 w0 i0 i0");
    C.due("insert into the emptied slot", r.insert(1, 0, 'o'), 3);
    Checks.Maker made = PromiseTest::racked;
    C.refusesUnchanged("withdraw of none", made, Checks.MISSING, x -> x.withdraw(0, 1));
    for (int wrong : WRONG_LAYERS) {
      C.refusesUnchanged("withdraw of layer " + wrong, made, Checks.INDEX, x -> x.withdraw(wrong, 0));
    }
    for (int wrong : WRONG_SLOTS) {
      C.refusesUnchanged("withdraw of slot " + wrong, made, Checks.INDEX, x -> x.withdraw(1, wrong));
    }
  }

  private static void promises26And27Remarks() {
    OpinionReactor r = new OpinionReactor();
    C.due("depth of an empty rack", r.depthOf(0), 0);
    r.insert(0, 0, 'q');
    r.insert(0, 1, 'o');
    r.insert(3, 2, 'q');
    C.due("remarkAt(0, 0)", r.remarkAt(0, 0), 'q');
    C.due("remarkAt(0, 1)", r.remarkAt(0, 1), 'o');
    C.due("remarkAt(0, 2)", r.remarkAt(0, 2), '.');
    C.due("remarkAt(1, 0)", r.remarkAt(1, 0), '.');
    C.due("remarkAt(3, 2)", r.remarkAt(3, 2), 'q');
    C.due("depthOf(0)", r.depthOf(0), 5);
    C.due("depthOf(1)", r.depthOf(1), 0);
    C.due("depthOf(3)", r.depthOf(3), 2);
    for (int slot = 0; slot < 3; slot++) {
      r.insert(2, slot, 'o');
    }
    C.due("greatest depth", r.depthOf(2), 9);
    for (int wrong : WRONG_LAYERS) {
      C.refuses("remarkAt of layer " + wrong, Checks.INDEX, () -> r.remarkAt(wrong, 0));
      C.refuses("depthOf " + wrong, Checks.INDEX, () -> r.depthOf(wrong));
    }
    for (int wrong : WRONG_SLOTS) {
      C.refuses("remarkAt of slot " + wrong, Checks.INDEX, () -> r.remarkAt(0, wrong));
    }
  }

  private static void promise28Excite() {
    OpinionReactor r = Checks.withClaims(2);
    C.due("excite(0, 1)", r.excite(0, 1), 1f);
    C.due("excite(0, 1000)", r.excite(0, 1000), 1001f);
    C.due("excite(1, 7)", r.excite(1, 7), 7f);
    C.due("fluxOf(0)", r.fluxOf(0), 1001f);
    Checks.Maker made = () -> Checks.withClaims(2);
    for (int wrong : new int[] {0, 1001, -1, Integer.MAX_VALUE, Integer.MIN_VALUE}) {
      C.refusesUnchanged("excite by " + wrong, made, Checks.ARGUMENT, x -> x.excite(0, wrong));
    }
    C.refusesUnchanged("excite of 2", made, Checks.INDEX, x -> x.excite(2, 1));
    for (int wrong : WRONG_CLAIMS) {
      C.refusesUnchanged("excite of " + wrong, made, Checks.INDEX, x -> x.excite(wrong, 0));
    }
    C.due("log of excite", Checks.log(r), "e0 e0 e0");
    C.due("power over the limit without a shift", r.scrams(), 0);
    for (int i = 0; i < 98; i++) {
      r.excite(0, 1000);
    }
    C.due("fluxOf(0) near the bound", r.fluxOf(0), 99001f);
    C.due("excite to the bound", r.excite(0, 998), 99999f);
    C.due("excite above the bound", r.excite(0, 1), 99999f);
    C.due("excite far above the bound", r.excite(0, 1000), 99999f);
    r.pass(1);
    r.excite(0, 1);
    C.due("halves are kept", r.fluxOf(0), 50000.5f);
  }

  private static void promise29PassFlux() {
    OpinionReactor r = Checks.withAttacks(3, "01 11 20");
    r.excite(0, 40);
    r.excite(1, 100);
    r.excite(2, 8);
    C.due("pass(1)", r.pass(1), 0);
    C.due("fluxOf(0)", r.fluxOf(0), 22f);
    C.due("fluxOf(1)", r.fluxOf(1), 85f);
    C.due("fluxOf(2)", r.fluxOf(2), 4f);
    r.setLayer(1, 2);
    r.insert(2, 1, 'o');
    r.insert(2, 0, 'q');
    C.due("pass(1) with depth", r.pass(1), 0);
    C.due("damped flux", r.fluxOf(1), (85f * 0.5f + 22f * 0.25f + 85f * 0.25f) * 5f / 10f);
    C.due("flux of layer 0", r.fluxOf(0), 12f);
    C.due("pass(20)", r.pass(20), 0);
    C.due("shiftCount", r.shiftCount(), 22);
    OpinionReactor high = Checks.withAttacks(10, "00 10 20 30 40 50 60 70 80 90");
    for (int i = 0; i < 300; i++) {
      high.excite(i % 10, 1000);
    }
    high.setLimit(9999);
    high.pass(1);
    C.due("flux of many attackers", high.fluxOf(0), 90000f);
    OpinionReactor higher = Checks.withAttacks(10, "00 10 20 30 40 50 60 70 80 90");
    for (int i = 0; i < 400; i++) {
      higher.excite(i % 10, 1000);
    }
    higher.pass(1);
    C.due("flux at its bound", higher.fluxOf(0), 99999f);
    for (int wrong : new int[] {0, 21, -1, Integer.MAX_VALUE, Integer.MIN_VALUE}) {
      C.refusesUnchanged("pass " + wrong, () -> excited(2), Checks.ARGUMENT, x -> x.pass(wrong));
    }
  }

  private static OpinionReactor excited(int number) {
    OpinionReactor r = Checks.withClaims(number);
    r.excite(number - 1, 1000);
    return r;
  }

  private static void promise29PassScrams() {
    OpinionReactor r = Checks.withClaims(2);
    r.setRack(1, 'q');
    r.setRack(2, 'o');
    r.insert(3, 1, 'q');
    r.excite(0, 1000);
    r.excite(1, 1000);
    C.due("power at the limit is no scram", r.pass(1), 0);
    r.excite(0, 1000);
    r.excite(1, 1000);
    C.due("power above the limit is one", r.pass(1), 1);
    C.due("power after the scram", r.power(), 1500f);
    C.due("racks after a scram", Checks.racks(r), "aooo qqqq oooo aoqo");
    C.due("log after a scram", Checks.log(r), "s2 e1 e1 e0 e0 i0");
    OpinionReactor full = Checks.withClaims(2);
    full.setLimit(1);
    full.setRack(0, 'q');
    full.excite(0, 100);
    // 50; from then on the rack leaves 4 tenths of each half: 10, 2, 0.4.
    C.due("scrams of several shifts", full.pass(20), 3);
    C.due("scrams so far", full.scrams(), 3);
    C.due("each scram in the log", Checks.log(full), "s3 s2 s1 e0");
    C.due("flux with a rack of questions", full.shiftCount(), 20);
    OpinionReactor late = Checks.withClaims(1);
    late.excite(0, 100);
    late.pass(2);
    late.setLimit(24);
    C.due("no scram by a lower limit alone", late.scrams(), 0);
    C.due("none while the power falls below it", late.pass(1), 0);
    late.setLimit(6);
    C.due("one by 6.25", late.pass(1), 1);
  }

  private static void promise30SetLimit() {
    OpinionReactor r = new OpinionReactor();
    C.due("setLimit(1)", r.setLimit(1), 1000);
    C.due("setLimit(9999)", r.setLimit(9999), 1);
    for (int wrong : new int[] {0, 10000, -1, Integer.MAX_VALUE, Integer.MIN_VALUE}) {
      C.refusesUnchanged("setLimit " + wrong, () -> excited(2), Checks.ARGUMENT, x -> x.setLimit(wrong));
      C.refuses("setLimit " + wrong, Checks.ARGUMENT, () -> r.setLimit(wrong));
    }
    C.due("setLimit(5)", r.setLimit(5), 9999);
    C.due("log of setLimit", r.logCount(), 0);
  }

  private static void promises31To34Flux() {
    OpinionReactor r = Checks.withAttacks(3, "01 12 20 11");
    C.due("fluxBits at first", r.fluxBits(0), 0);
    r.excite(0, 999);
    r.excite(1, 1);
    r.insert(0, 0, 'o');
    for (int i = 0; i < 50; i++) {
      float sum = 0f;
      for (int claim = 0; claim < 3; claim++) {
        float flux = r.fluxOf(claim);
        sum += flux;
        C.due("fluxBits", r.fluxBits(claim), Float.floatToIntBits(flux));
      }
      C.due("power", r.power(), sum);
      C.due("powerBits", r.powerBits(), Float.floatToIntBits(sum));
      r.pass(i < 10 ? 1 : 6);
    }
    C.due("power at last", r.power(), 0f);
    for (int wrong : WRONG_CLAIMS) {
      C.refuses("fluxOf " + wrong, Checks.INDEX, () -> r.fluxOf(wrong));
      C.refuses("fluxBits " + wrong, Checks.INDEX, () -> r.fluxBits(wrong));
    }
    C.refuses("fluxOf(3)", Checks.INDEX, () -> r.fluxOf(3));
    C.refuses("fluxBits(3)", Checks.INDEX, () -> r.fluxBits(3));
    OpinionReactor small = Checks.withClaims(1);
    small.excite(0, 1);
    small.pass(20);
    C.due("1 / 2^20", small.fluxBits(0), (127 - 20) << 23);
    for (int i = 0; i < 6; i++) {
      small.pass(20);
    }
    C.due("1 / 2^140", small.fluxBits(0), 1 << 9);
    small.pass(9);
    // The least float; its half is as near to it as to none, and is rounded to the even one: to none.
    C.due("1 / 2^149", small.fluxBits(0), 1);
    small.pass(1);
    C.due("less than every float", small.fluxBits(0), 0);
  }

  private static void promise35ShiftsUntilBelow() {
    OpinionReactor r = Checks.withClaims(1);
    C.due("below without claims' flux", r.shiftsUntilBelow(1), 0);
    r.excite(0, 100);
    String old = Checks.view(r);
    C.due("until below 101", r.shiftsUntilBelow(101), 0);
    C.due("until below 100", r.shiftsUntilBelow(100), 1);
    C.due("until below 50", r.shiftsUntilBelow(50), 2);
    C.due("until below 9999", r.shiftsUntilBelow(9999), 0);
    C.due("until below 1", r.shiftsUntilBelow(1), 7);
    C.due("all that can be seen after it", Checks.view(r), old);
    for (int wrong : new int[] {0, 10000, -1, Integer.MAX_VALUE, Integer.MIN_VALUE}) {
      C.refuses("until below " + wrong, Checks.ARGUMENT, () -> r.shiftsUntilBelow(wrong));
    }
    r.setLimit(20);
    // 50 is above the limit, so the shifts after it leave a twentieth each.
    C.due("until below 1 with a scram", r.shiftsUntilBelow(1), 3);
    C.due("scrams after it", r.scrams(), 0);
    C.due("depth after it", r.depthOf(0), 0);
    OpinionReactor ever = Checks.withAttacks(3, "01 02 10 12 20 21");
    ever.excite(0, 900);
    C.refuses("never below", Checks.MISSING, () -> ever.shiftsUntilBelow(899));
    C.due("never below, but now", ever.shiftsUntilBelow(901), 0);
    OpinionReactor slow = Checks.withAttacks(2, "00 10 01 11");
    slow.insert(0, 0, 'q');
    slow.excite(0, 1000);
    slow.insert(1, 0, 'q');
    slow.setLayer(1, 1);
    // The power falls to 0.8 of itself in each shift: after 30 shifts it is 1.238, after 31 it is 0.990.
    C.refuses("more than 30 shifts", Checks.MISSING, () -> slow.shiftsUntilBelow(1));
    C.due("at most 30 shifts", slow.shiftsUntilBelow(2), 28);
    slow.setAttack(1, 0, false);
    slow.setAttack(0, 1, false);
    OpinionReactor exact = Checks.withAttacks(2, "00 10 01 11");
    exact.insert(0, 0, 'q');
    exact.excite(0, 800);
    // 800 * 0.8^30 is 0.990, and 800 * 0.8^29 is 1.238.
    C.due("30 shifts", exact.shiftsUntilBelow(1), 30);
  }

  private static void promises36And37Counts() {
    OpinionReactor r = Checks.withClaims(2);
    r.pass(3);
    r.pass(20);
    C.due("shiftCount", r.shiftCount(), 23);
    C.due("scrams", r.scrams(), 0);
    r.setLimit(1);
    r.excite(0, 1000);
    int scrams = r.pass(2) + r.pass(1);
    C.due("scrams of three shifts", scrams, 3);
    C.due("scrams", r.scrams(), 3);
    C.due("shiftCount at last", r.shiftCount(), 26);
  }

  private static void promise38ClaimAtRank() {
    OpinionReactor r = new OpinionReactor();
    C.refuses("rank 0 of none", Checks.MISSING, () -> r.claimAtRank(0));
    for (int weight : new int[] {5, 7, 5, 9, 7}) {
      r.addClaim(weight);
    }
    ranked(r, 3, 1, 4, 0, 2);
    r.excite(2, 3);
    ranked(r, 2, 3, 1, 4, 0);
    r.excite(0, 4);
    ranked(r, 0, 2, 3, 1, 4);
    r.excite(2, 1);
    ranked(r, 0, 2, 3, 1, 4);
    r.excite(4, 4);
    ranked(r, 4, 0, 2, 3, 1);
    for (int wrong : new int[] {-1, 5, 10, Integer.MAX_VALUE, Integer.MIN_VALUE}) {
      C.refuses("rank " + wrong, Checks.MISSING, () -> r.claimAtRank(wrong));
    }
  }

  private static void ranked(OpinionReactor r, int... claims) {
    for (int rank = 0; rank < claims.length; rank++) {
      C.due("claimAtRank(" + rank + ")", r.claimAtRank(rank), claims[rank]);
    }
  }

  private static void promises39To41Log() {
    OpinionReactor r = Checks.withClaims(1);
    C.refuses("logShift(0) of none", Checks.MISSING, () -> r.logShift(0));
    C.refuses("logKind(0) of none", Checks.MISSING, () -> r.logKind(0));
    r.excite(0, 1);
    r.pass(2);
    r.insert(0, 0, 'q');
    r.pass(3);
    r.withdraw(0, 0);
    r.excite(0, 1000);
    r.setLimit(499);
    r.pass(1);
    C.due("log", Checks.log(r), "s6 e5 w5 i2 e0");
    C.refuses("logShift(5)", Checks.MISSING, () -> r.logShift(5));
    C.refuses("logKind(5)", Checks.MISSING, () -> r.logKind(5));
    Checks.run(r, "draw 00;insert 00q;excite 0+1");
    C.due("log after commands", Checks.log(r), "e6 i6 w6 s6 e5 w5 i2 e0");
    for (int i = 0; i < 8; i++) {
      r.excite(0, 1);
    }
    C.due("logCount of 16", r.logCount(), 16);
    C.due("oldest of 16", r.logShift(15), 0);
    r.withdraw(0, 0);
    C.due("logCount of 17", r.logCount(), 16);
    C.due("newest of 17", r.logKind(0), 'w');
    C.due("oldest of 17", "" + r.logKind(15) + r.logShift(15), "i2");
    for (int wrong : new int[] {-1, 16, Integer.MAX_VALUE, Integer.MIN_VALUE}) {
      C.refuses("logShift " + wrong, Checks.MISSING, () -> r.logShift(wrong));
      C.refuses("logKind " + wrong, Checks.MISSING, () -> r.logKind(wrong));
    }
  }

  private static void promise42Append() {
    OpinionReactor r = new OpinionReactor();
    C.due("append ' '", r.append(' '), 1);
    C.due("append '~'", r.append('~'), 2);
    for (char wrong : new char[] {31, 127, 0, 10, 128, 233, 255, 256, 65535}) {
      C.refuses("append " + (int) wrong, Checks.ARGUMENT, () -> r.append(wrong));
    }
    C.due("append 'c'", r.append('c'), 3);
    for (int i = 4; i <= 60; i++) {
      C.due("append " + i, r.append((char) (32 + i)), i);
    }
    C.refuses("the 61st character", Checks.STATE, () -> r.append('c'));
    C.refuses("a wrong 61st character", Checks.ARGUMENT, () -> r.append((char) 31));
    C.refuses("run", Checks.ARGUMENT, r::run);
    C.due("append after run", r.append('c'), 1);
    C.refuses("undo of append", Checks.STATE, r::undo);
  }

  private static void promise43RunCommands() {
    OpinionReactor r = new OpinionReactor();
    C.due("run of a claim", Checks.run(r, "claim 7"), 1);
    C.due("weightOf(0)", r.weightOf(0), 7);
    C.due("run of two", Checks.run(r, "claim 0099;attack 0>1"), 2);
    C.due("weightOf(1)", r.weightOf(1), 99);
    C.due("attacks(0, 1)", r.attacks(0, 1), true);
    C.due("attacks(1, 0)", r.attacks(1, 0), false);
    C.due("run of four", Checks.run(r, "calm 0>1;attack 1>0;layer 1=3;rack 2q"), 4);
    C.due("attacks(0, 1) after calm", r.attacks(0, 1), false);
    C.due("attacks(1, 0) after it", r.attacks(1, 0), true);
    C.due("layerOf(1)", r.layerOf(1), 3);
    C.due("run of inserts", Checks.run(r, "insert 22q;insert 01o;rack 1o;rack 3a;excite 1+123"), 5);
    C.due("racks", Checks.racks(r), "a.o. o... q..q a...");
    C.due("fluxOf(1)", r.fluxOf(1), 123f);
    C.due("run of others", Checks.run(r, "draw 01;limit 8;pass 2;claim 1"), 4);
    C.due("claimCount", r.claimCount(), 3);
    C.due("shiftCount", r.shiftCount(), 2);
    C.due("scrams", r.scrams(), 1);
    C.due("limit", r.setLimit(1), 8);
    C.due("log", Checks.log(r), "s1 w0 e0 i0 i0");
    C.due("a run of eight", Checks.run(r, "pass 1;pass 1;pass 1;pass 1;pass 1;pass 1;pass 1;pass 0001"), 8);
    C.due("length of the text after run", r.append('x'), 1);
    C.refuses("run of x", Checks.ARGUMENT, r::run);
    C.due("length after a wrong text", r.append('x'), 1);
    C.refuses("run of x again", Checks.ARGUMENT, r::run);
    C.refuses("run of pass 0", Checks.STATE, () -> Checks.run(r, "pass 0"));
    C.due("length after a failed run", r.append('x'), 1);
  }

  private static void promise43RunFailing() {
    for (String command : new String[] {
        "claim 0", "claim 100", "claim 9999", "attack 2>0", "attack 0>9", "calm 2>0", "calm 0>2", "layer 0=4",
        "layer 2=0", "rack 4q", "rack 0q", "insert 40q", "insert 03q", "insert 00q", "insert 10o", "draw 01",
        "draw 03", "draw 40", "excite 2+1", "excite 0+0", "excite 0+1001", "limit 0", "limit 0000", "pass 21",
        "pass 0", "pass 9999"}) {
      OpinionReactor r = Checks.withClaims(2);
      r.insert(0, 0, 'q');
      r.setRack(1, 'q');
      r.setLimit(500);
      r.excite(0, 100);
      String old = Checks.view(r).replaceAll("failed.*", "");
      C.refuses("run of " + command, Checks.STATE, () -> Checks.run(r, "excite 1+5;limit 450;pass 1;" + command));
      C.due("failedCommand of " + command, r.failedCommand(), 3);
      C.due("all after " + command, Checks.view(r).replaceAll("failed.*", ""), old);
      C.due("undo after " + command, r.undo(), 5);
      C.due("limit after " + command, r.setLimit(1), 500);
    }
    OpinionReactor r = new OpinionReactor();
    C.refuses("a wrong text behind a good command", Checks.ARGUMENT, () -> Checks.run(r, "claim 1;claim"));
    C.due("claimCount after it", r.claimCount(), 0);
    C.refuses("a wrong text behind a failing command", Checks.ARGUMENT, () -> Checks.run(r, "claim 0;claim"));
    C.refuses("failedCommand after it", Checks.MISSING, r::failedCommand);
    C.due("a command that needs the one before it", Checks.run(r, "claim 1;attack 0>0"), 2);
  }

  private static void wrongText(String text, int position) {
    wrongText(new OpinionReactor(), text, position);
  }

  private static void wrongText(OpinionReactor r, String text, int position) {
    C.refuses("run of \"" + text + "\"", Checks.ARGUMENT, () -> Checks.run(r, text));
    C.due("errorPosition of \"" + text + "\"", r.errorPosition(), position);
  }

  private static void promise44ErrorPosition() {
    C.refuses("errorPosition of none", Checks.MISSING, () -> new OpinionReactor().errorPosition());
    wrongText("", 0);
    for (String text : new String[] {
        "claim 1", "attack 0>1", "calm 2>3", "layer 4=5", "rack 6q", "rack 6o", "rack 6a", "insert 78q",
        "insert 78o", "draw 90", "excite 1+2", "limit 3", "pass 4"}) {
      for (int i = 0; i < text.length(); i++) {
        wrongText(text.substring(0, i), i);
        wrongText(text.substring(0, i) + "*", i);
        wrongText(text.substring(0, i) + ";" + text, i);
        wrongText(text.substring(0, i) + Character.toUpperCase(text.charAt(i)) + "~", i
            + (Character.isLowerCase(text.charAt(i)) ? 0 : 1));
        wrongText("pass 1;" + text + ";" + text.substring(0, i) + "*", i + 8 + text.length());
      }
      wrongText(text + ";", text.length() + 1);
      wrongText(text + "; ", text.length() + 1);
      wrongText(text + " ", text.length());
      wrongText(text + ";;", text.length() + 1);
    }
    wrongText(" claim 1", 0);
    wrongText("claim  1", 6);
    wrongText("claim 12345", 10);
    wrongText("claim -1", 6);
    wrongText("clalm 1", 3);
    wrongText("climit 1", 2);
    wrongText("lc", 1);
    wrongText("ca", 2);
    wrongText("cal", 3);
    wrongText("excite 0+", 9);
    wrongText("excite 0+12345", 13);
    wrongText("excite 00+1", 8);
    wrongText("limit 00000", 10);
    wrongText("attack 0>10", 10);
    wrongText("rack 0.", 6);
    wrongText("insert 00a", 9);
    wrongText("insert 000", 9);
    wrongText("draw 000", 7);
    wrongText("claim 1;pass 2;draw 0x;xyz", 21);
    wrongText("pass 1;pass 1;pass 1;pass 1;pass 1;pass 1;pass 1;pass 1;pass", 60);
    wrongText("pass 1;pass 1;pass 1;pass 1;pass 1;pass 1;pass 1;pass 1;pasc", 59);
    wrongText("pass 1;pass 1;pass 1;pass 1;pass 1;pass 1;pass 1;pass 1;    ", 56);
    OpinionReactor r = new OpinionReactor();
    wrongText(r, "pass 2;attack", 13);
    wrongText(r, "xpass 2;", 0);
    wrongText(r, "claim 1;pass x", 13);
    C.refuses("a failing command", Checks.STATE, () -> Checks.run(r, "pass 0"));
    C.due("errorPosition after a failed command", r.errorPosition(), 13);
    C.due("a good text", Checks.run(r, "pass 1"), 1);
    C.due("errorPosition after a good text", r.errorPosition(), 13);
    r.undo();
    C.due("errorPosition after undo", r.errorPosition(), 13);
  }

  private static void promise45FailedCommand() {
    OpinionReactor r = new OpinionReactor();
    C.refuses("failedCommand of none", Checks.MISSING, r::failedCommand);
    Checks.run(r, "claim 1");
    C.refuses("failedCommand after a good run", Checks.MISSING, r::failedCommand);
    C.refuses("run with a failing third", Checks.STATE, () -> Checks.run(r, "claim 1;claim 1;claim 0;pass 0"));
    C.due("failedCommand", r.failedCommand(), 2);
    C.refuses("errorPosition", Checks.MISSING, r::errorPosition);
    C.refuses("run of a wrong text", Checks.ARGUMENT, () -> Checks.run(r, "claim"));
    C.due("failedCommand after a wrong text", r.failedCommand(), 2);
    C.due("errorPosition after it", r.errorPosition(), 5);
    Checks.run(r, "claim 1");
    C.due("failedCommand after a good run", r.failedCommand(), 2);
    r.undo();
    C.due("failedCommand after undo", r.failedCommand(), 2);
    C.refuses("run with a failing first", Checks.STATE, () -> Checks.run(r, "draw 00;claim 1"));
    C.due("failedCommand of the latest", r.failedCommand(), 0);
    OpinionReactor full = Checks.withClaims(9);
    C.refuses("run over ten claims", Checks.STATE, () -> Checks.run(full, "claim 1;claim 1"));
    C.due("failedCommand of an 11th claim", full.failedCommand(), 1);
    C.due("claimCount after it", full.claimCount(), 9);
  }

  private static OpinionReactor described() {
    OpinionReactor r = Checks.withAttacks(3, "21 20");
    r.describeClaim(2);
    return r;
  }

  private static void promise46DescribeClaim() {
    OpinionReactor r = Checks.withAttacks(5, "24 20 01 33 34 13");
    C.due("describeClaim(2)", r.describeClaim(2), 4);
    C.due("its line", Checks.wholeLine(r), "2+04");
    C.due("describeClaim(0)", Checks.claim(r, 0), "0-1");
    C.due("describeClaim(1)", Checks.claim(r, 1), "1+3");
    C.due("describeClaim(3)", Checks.claim(r, 3), "3-34");
    C.due("describeClaim(4)", Checks.claim(r, 4), "4-");
    C.due("a shorter line replaces it", Checks.wholeLine(r), "4-");
    OpinionReactor all = Checks.withAttacks(10, "99 98 97 96 95 94 93 92 91 90");
    C.due("the longest line", all.describeClaim(9), 12);
    C.due("its text", Checks.wholeLine(all), "9?0123456789");
    for (int wrong : WRONG_CLAIMS) {
      C.refusesUnchanged("describeClaim " + wrong, PromiseTest::described, Checks.INDEX, x -> x.describeClaim(wrong));
      C.refuses("describeClaim of ten " + wrong, Checks.INDEX, () -> all.describeClaim(wrong));
    }
    C.refuses("describeClaim(5)", Checks.INDEX, () -> r.describeClaim(5));
  }

  private static void promise47DescribeRacks() {
    OpinionReactor r = new OpinionReactor();
    r.insert(0, 0, 'q');
    r.setRack(2, 'o');
    r.insert(2, 0, 'o');
    r.insert(2, 1, 'o');
    r.insert(2, 2, 'o');
    r.setRack(3, 'q');
    r.insert(3, 2, 'q');
    C.due("describeRacks", r.describeRacks(), 19);
    C.due("its line", Checks.wholeLine(r), "aq.. a... oooo q..q");
    r.withdraw(2, 1);
    C.due("the line stays", Checks.wholeLine(r), "aq.. a... oooo q..q");
    C.due("the next line", Checks.racks(r), "aq.. a... oo.o q..q");
  }

  private static void promise48LineAt() {
    OpinionReactor r = Checks.withClaims(1);
    C.refuses("lineAt(0) at first", Checks.INDEX, () -> r.lineAt(0));
    r.describeRacks();
    C.due("lineAt(0)", r.lineAt(0), 'a');
    C.due("lineAt(18)", r.lineAt(18), '.');
    for (int wrong : new int[] {-1, 19, Integer.MAX_VALUE, Integer.MIN_VALUE}) {
      C.refuses("lineAt " + wrong, Checks.INDEX, () -> r.lineAt(wrong));
    }
    r.describeClaim(0);
    C.due("lineAt(1)", r.lineAt(1), '+');
    C.refuses("lineAt(2) of a short line", Checks.INDEX, () -> r.lineAt(2));
    r.save();
    r.undo();
    C.due("lineAt(0) after undo", r.lineAt(0), '0');
    r.describeRacks();
    r.restore();
    C.due("lineAt(0) after restore", r.lineAt(0), 'a');
  }

  private static void promises49And50MeanWeight() {
    OpinionReactor none = new OpinionReactor();
    C.refuses("meanWeight of none", Checks.ARITHMETIC, none::meanWeight);
    C.refuses("meanWeightBits of none", Checks.ARITHMETIC, none::meanWeightBits);
    for (int first = 1; first <= 99; first += 7) {
      OpinionReactor r = new OpinionReactor();
      int sum = 0;
      for (int i = 0; i < 10; i++) {
        int weight = 1 + (first + i * i) % 99;
        r.addClaim(weight);
        sum += weight;
        double mean = (double) sum / (double) (i + 1);
        C.due("meanWeight", r.meanWeight(), mean);
        C.due("meanWeightBits", r.meanWeightBits(), Double.doubleToLongBits(mean));
      }
    }
    OpinionReactor least = new OpinionReactor();
    least.addClaim(1);
    C.due("meanWeightBits of 1", least.meanWeightBits(), 0x3FF0000000000000L);
    least.addClaim(2);
    C.due("meanWeight of 1 and 2", least.meanWeight(), 1.5);
    OpinionReactor most = new OpinionReactor();
    most.addClaim(99);
    C.due("meanWeightBits of 99", most.meanWeightBits(), 0x4058C00000000000L);
  }

  private static void promise51IsConsistent() {
    for (String attacks : new String[] {"00", "01 12 20", "01 10 12 23 33", "04 42 21 13 30 11"}) {
      OpinionReactor r = Checks.withAttacks(5, attacks);
      r.describeRacks();
      r.excite(0, 1000);
      r.pass(20);
      String old = Checks.view(r);
      C.due("isConsistent of " + attacks, r.isConsistent(), true);
      C.due("all that can be seen after it", Checks.view(r), old);
    }
    C.due("isConsistent of one", Checks.withClaims(1).isConsistent(), true);
    C.due("isConsistent of ten", Checks.withClaims(10).isConsistent(), true);
  }

  private static void promise52Undo() {
    OpinionReactor r = new OpinionReactor();
    C.refusesUnchanged("undo of nothing", OpinionReactor::new, Checks.STATE, OpinionReactor::undo);
    for (int i = 0; i < 10; i++) {
      r.addClaim(i + 1);
    }
    for (int i = 0; i < 8; i++) {
      C.due("undo " + i, r.undo(), 7 - i);
      C.due("claimCount after undo " + i, r.claimCount(), 9 - i);
    }
    C.refuses("undo of the ninth", Checks.STATE, r::undo);
    r.addClaim(50);
    r.addClaim(60);
    C.due("undo of a new change", r.undo(), 1);
    C.due("the change before it stays", r.weightOf(2), 50);
    r.addClaim(70);
    C.due("undo after undo and change", r.undo(), 1);
    C.due("undo of the first", r.undo(), 0);
    C.due("claimCount at last", r.claimCount(), 2);
    OpinionReactor few = new OpinionReactor();
    for (int i = 0; i < 9; i++) {
      few.setLimit(i + 1);
    }
    few.undo();
    few.undo();
    few.setLimit(50);
    C.due("undo after two undone", few.undo(), 6);
    C.due("all that are left", Checks.undoAll(few), 6);
    C.due("limit after all", few.setLimit(3), 1);
    OpinionReactor same = Checks.withClaims(1);
    same.setLayer(0, 0);
    same.setAttack(0, 0, false);
    same.setLimit(1000);
    same.setRack(0, 'a');
    C.due("changes without a difference", same.undo(), 4);
    OpinionReactor run = new OpinionReactor();
    Checks.run(run, "claim 1;claim 2;excite 0+5");
    C.due("undo of a run", run.undo(), 0);
    C.due("claimCount after it", run.claimCount(), 0);
    C.due("logCount after it", run.logCount(), 0);
    Checks.type(run, "claim 1");
    C.refuses("undo of append", Checks.STATE, run::undo);
    C.due("the text is kept", run.append(';'), 8);
    run.describeRacks();
    C.refuses("undo of describeRacks", Checks.STATE, run::undo);
    run.save();
    C.refuses("undo of save", Checks.STATE, run::undo);
    run.addClaim(5);
    C.due("the text stays in undo", run.undo() + run.append('c'), 9);
    C.due("claim of a new claim after undo", run.addClaim(6), 0);
    C.due("attacks of a new claim after undo", run.attacks(0, 0), false);
  }

  private static OpinionReactor ofManyKinds() {
    OpinionReactor r = Checks.withAttacks(3, "01 12");
    r.excite(0, 1000);
    r.excite(1, 1000);
    r.insert(0, 0, 'q');
    r.describeRacks();
    return r;
  }

  private static void undone(String name, Checks.Use change) {
    OpinionReactor r = ofManyKinds();
    String old = Checks.view(r);
    change.on(r);
    C.due("changes to undo after " + name, r.undo(), 7);
    C.due("all after undo of " + name, Checks.view(r), old);
    C.due("racks after undo of " + name, Checks.racks(r), "aq.. a... a... a...");
    C.due("limit after undo of " + name, r.setLimit(1), 1000);
    C.due("acceptedBits after undo of " + name, r.acceptedBits(), 0b101);
  }

  private static void promise52UndoOfEachChange() {
    undone("addClaim", r -> r.addClaim(5));
    undone("setAttack", r -> r.setAttack(2, 0, true));
    undone("the end of an attack", r -> r.setAttack(0, 1, false));
    undone("setLayer", r -> r.setLayer(2, 2));
    undone("setRack", r -> r.setRack(2, 'q'));
    undone("insert", r -> r.insert(2, 0, 'q'));
    undone("withdraw", r -> r.withdraw(0, 0));
    undone("excite", r -> r.excite(0, 10));
    undone("setLimit", r -> r.setLimit(500));
    undone("pass with scrams", r -> r.pass(5));
    undone("run", r -> Checks.run(r, "calm 0>1;rack 1o;pass 3;excite 0+7;limit 3"));
  }

  private static void promise53Save() {
    OpinionReactor r = new OpinionReactor();
    C.due("save of none", r.save(), 0);
    r.addClaim(3);
    r.addClaim(4);
    C.due("save of two", r.save(), 2);
    C.due("a save is no change", r.undo(), 1);
    C.due("restore of the later", r.restore(), 2);
    C.due("weightOf(1)", r.weightOf(1), 4);
    OpinionReactor failed = Checks.withClaims(1);
    failed.save();
    C.refuses("a run that fails", Checks.STATE, () -> Checks.run(failed, "claim 1;pass 0"));
    failed.addClaim(9);
    C.due("restore after a failed run", failed.restore(), 1);
  }

  private static void promise54Restore() {
    OpinionReactor r = new OpinionReactor();
    r.addClaim(1);
    C.refusesUnchanged("restore of nothing", () -> Checks.withClaims(2), Checks.STATE, OpinionReactor::restore);
    C.refuses("restore of nothing", Checks.STATE, r::restore);
    C.due("undo after a refused restore", r.undo(), 0);
    r.addClaim(5);
    r.addClaim(6);
    r.setAttack(0, 1, true);
    r.setLayer(1, 2);
    r.setRack(3, 'q');
    r.insert(3, 1, 'q');
    r.excite(0, 1000);
    r.setLimit(400);
    r.pass(2);
    r.describeRacks();
    String old = Checks.view(r);
    r.save();
    for (int i = 0; i < 2; i++) {
      r.addClaim(7);
      r.setAttack(0, 1, false);
      r.setAttack(1, 0, true);
      r.setLayer(1, 1);
      r.withdraw(3, 1);
      r.withdraw(3, 0);
      r.withdraw(3, 2);
      r.setRack(3, 'o');
      r.excite(1, 50);
      r.setLimit(1);
      r.pass(4);
      C.due("restore", r.restore(), 2);
      C.due("all after restore", Checks.view(r), old);
      C.due("racks after restore", Checks.racks(r), "aooo aooo aooo qqqq");
      C.refuses("undo after restore", Checks.STATE, r::undo);
      C.due("limit after restore", r.setLimit(400), 400);
      C.due("undo of a change after restore", r.undo(), 0);
    }
    C.due("acceptedBits after restore", r.acceptedBits(), 1);
    Checks.type(r, "claim");
    r.restore();
    C.due("the text after restore", r.append(' '), 6);
    C.refuses("run of it", Checks.ARGUMENT, r::run);
    r.restore();
    C.due("errorPosition after restore", r.errorPosition(), 6);
  }
}
