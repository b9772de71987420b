/** The boundary cases that the document names for promises 1 to 41: the last allowed, the first not, empty, full. */
public final class BoundaryTest {
  private static final Checks C = new Checks();

  public static void main(String[] args) {
    newObject();
    claims();
    claimInAnUndoneOnesPlace();
    attacksTakenBack();
    accepting();
    acceptingOfMany();
    positions();
    heaviestOfSeveral();
    setsOfClaims();
    circles();
    chains();
    racks();
    slots();
    amounts();
    shiftInFloat();
    shiftInOrder();
    powerInOrder();
    shiftAtTheBound();
    shiftsFromOldFluxes();
    shiftByLayers();
    scramsAtTheLimit();
    scramsAtTheEndOfAShift();
    scramsOfFullRacks();
    numbersOfShifts();
    lookingAhead();
    lookingAheadWithScrams();
    ranks();
    log();
    logOfScrams();
    logOfCommands();
    logOfOtherCalls();
    logThatComesBack();
    C.end();
  }

  // ---- promises 1 to 8

  private static void newObject() {
    OpinionReactor r = new OpinionReactor();
    C.due("all of a new object", Checks.whole(r),
        "............ 0 0  error throws NoSuchElementException failed throws NoSuchElementException line "
            + " racks a... a... a... a... text 1 at first 1000"
            + " snapshot throws IllegalStateException: 0000 0 0 0 0 0 0 0 1");
    OpinionReactor other = new OpinionReactor();
    Checks.withClaims(10).save();
    C.due("an object beside a full one", other.addClaim(1), 0);
  }

  private static void claims() {
    OpinionReactor r = new OpinionReactor();
    int[] weights = {1, 99, 98, 2, 1, 99, 50, 51, 49, 99};
    for (int i = 0; i < 10; i++) {
      C.refuses("weightOf the next", Checks.INDEX, () -> r.weightOf(r.claimCount()));
      C.due("claimCount ahead", r.claimCount(), i);
      C.due("addClaim", r.addClaim(weights[i]), i);
      C.due("weightOf it", r.weightOf(i), weights[i]);
    }
    C.refuses("an 11th", Checks.STATE, () -> r.addClaim(1));
    C.due("claimCount of all", r.claimCount(), 10);
    for (int layer = 0; layer < 4; layer++) {
      C.due("setLayer(9, " + layer + ")", r.setLayer(9, layer), layer == 0 ? 0 : layer - 1);
      C.due("layerOf(9)", r.layerOf(9), layer);
    }
    C.due("layerOf(8)", r.layerOf(8), 0);
    C.due("setAttack(9, 9)", r.setAttack(9, 9, true), false);
    C.due("setAttack(0, 9)", r.setAttack(0, 9, true), false);
    C.due("setAttack(9, 0)", r.setAttack(9, 0, true), false);
    C.due("attacks(9, 9)", r.attacks(9, 9), true);
    C.due("attacks(0, 9)", r.attacks(0, 9), true);
    C.due("attacks(9, 0)", r.attacks(9, 0), true);
    C.due("attacks(0, 0)", r.attacks(0, 0), false);
  }

  private static void claimInAnUndoneOnesPlace() {
    OpinionReactor r = Checks.withClaims(1);
    r.addClaim(7);
    r.setLayer(1, 3);
    r.setAttack(1, 1, true);
    r.setAttack(0, 1, true);
    r.setAttack(1, 0, true);
    r.excite(1, 9);
    for (int i = 0; i < 6; i++) {
      r.undo();
    }
    C.due("a claim in an undone one's place", r.addClaim(8), 1);
    C.due("its layer", r.layerOf(1), 0);
    C.due("its flux", r.fluxBits(1), 0);
    C.due("its attacks", r.attacks(1, 0) || r.attacks(0, 1) || r.attacks(1, 1), false);
    C.due("its circle", r.circleSize(1), 1);
    C.due("accepted with it", r.acceptedBits(), 0b11);
  }

  private static void attacksTakenBack() {
    OpinionReactor r = Checks.withAttacks(4, "01 02 03 10 20");
    C.due("an end", r.setAttack(0, 2, false), true);
    for (int i = 0; i < 4; i++) {
      for (int k = 0; k < 4; k++) {
        boolean isLeft = i == 0 && (k == 1 || k == 3) || k == 0 && (i == 1 || i == 2);
        C.due("attacks(" + i + ", " + k + ") after it", r.attacks(i, k), isLeft);
      }
    }
    C.due("accepted after it", r.acceptedBits(), 0b1110);
    r.setAttack(1, 0, false);
    C.due("accepted while one attacker is left", r.acceptedBits(), 0b1110);
    C.due("by labels", r.acceptedBitsByLabels(), 0b1110);
    r.setAttack(2, 0, false);
    C.due("accepted when none is left", r.acceptedBits(), 0b0101);
    C.due("by labels when none is left", r.acceptedBitsByLabels(), 0b0101);
    C.due("positions", r.positions(), 4);
    C.due("chains by an attack that has ended", r.chains(0, 2, 1), 0);
    C.due("chainsBySteps by it", r.chainsBySteps(0, 2, 1), 0);
    r.excite(0, 100);
    r.pass(1);
    C.due("flux by an attack that has ended", r.fluxOf(2), 0f);
    C.due("flux by another one", r.fluxOf(3), 25f);
    C.due("the end of an attack that is none", r.setAttack(3, 0, false), false);
    C.due("which is still none", r.attacks(3, 0), false);
    C.due("accepted at last", r.acceptedBits(), 0b0101);
  }

  // ---- promises 9 to 17

  private static void accepted(String attacks, int claims, int accepted, int rejected) {
    OpinionReactor r = attacks.isEmpty() ? Checks.withClaims(claims) : Checks.withAttacks(claims, attacks);
    C.due("acceptedBits of " + attacks, r.acceptedBits(), accepted);
    C.due("acceptedBitsByLabels of " + attacks, r.acceptedBitsByLabels(), accepted);
    for (int i = 0; i < claims; i++) {
      C.due("isRejected(" + i + ") of " + attacks, r.isRejected(i), (rejected >> i & 1) == 1);
      String sign = (accepted >> i & 1) == 1 ? "+" : (rejected >> i & 1) == 1 ? "-" : "?";
      C.due("sign of " + i + " of " + attacks, Checks.claim(r, i).substring(1, 2), sign);
    }
    C.due("undecidedCount of " + attacks, r.undecidedCount(), claims - Integer.bitCount(accepted | rejected));
  }

  private static void accepting() {
    accepted("", 1, 1, 0);
    accepted("00", 1, 0, 0);
    accepted("01", 2, 0b01, 0b10);
    accepted("10", 2, 0b10, 0b01);
    // 1 is attacked by two accepted claims, but falls once.
    accepted("01 21 13", 4, 0b1101, 0b0010);
    // 5 does not fall again when 4 has fallen in between.
    accepted("05 14 25 56", 7, 0b1001111, 0b0110000);
    accepted("21 10", 3, 0b101, 0b010);
    // 3 needs both of its attackers rejected.
    accepted("01 13 23", 4, 0b0101, 0b1010);
    accepted("01 42 13 23", 5, 0b11001, 0b00110);
    // An undecided attacker rejects nothing, and keeps its victim from being accepted.
    accepted("00 01 12", 3, 0, 0);
    accepted("00 10 02", 3, 0b110, 0b001);
    // A set must be defended by what is accepted already: two that defend each other alone are not.
    accepted("01 12 23 30 14", 5, 0, 0);
  }

  private static void acceptingOfMany() {
    accepted("", 10, 1023, 0);
    accepted("00 11 22 33 44 55 66 77 88 99", 10, 0, 0);
    accepted("01 12 23 34 45 56 67 78 89 90", 10, 0, 0);
    // The most rounds that there can be, in both directions.
    accepted("01 12 23 34 45 56 67 78 89", 10, 0x155, 0x2AA);
    accepted("98 87 76 65 54 43 32 21 10", 10, 0x2AA, 0x155);
    accepted("90 91 92 93 94 95 96 97 98", 10, 0x200, 0x1FF);
    accepted("09 19 29 39 49 59 69 79 89", 10, 0x1FF, 0x200);
  }

  private static OpinionReactor weighing(String attacks, int... weights) {
    OpinionReactor r = new OpinionReactor();
    for (int weight : weights) {
      r.addClaim(weight);
    }
    for (String attack : attacks.split(" ")) {
      r.setAttack(attack.charAt(0) - '0', attack.charAt(1) - '0', true);
      r.setAttack(attack.charAt(1) - '0', attack.charAt(0) - '0', true);
    }
    return r;
  }

  private static void held(String name, OpinionReactor r, int number, int weight, int heaviest) {
    C.due("positions of " + name, r.positions(), number);
    C.due("positionsByDeciding of " + name, r.positionsByDeciding(), number);
    C.due("heaviestWeight of " + name, r.heaviestWeight(), weight);
    C.due("heaviestBits of " + name, r.heaviestBits(), heaviest);
    C.due("isPosition of the heaviest of " + name, r.isPosition(heaviest), true);
    C.due("isPosition of none of " + name, r.isPosition(0), true);
  }

  private static void positions() {
    held("none", new OpinionReactor(), 1, 0, 0);
    held("one", Checks.withClaims(1), 2, 1, 1);
    held("ten against themselves", Checks.withAttacks(10, "00 11 22 33 44 55 66 77 88 99"), 1, 0, 0);
    OpinionReactor most = new OpinionReactor();
    for (int i = 0; i < 10; i++) {
      most.addClaim(99);
    }
    held("ten of 99", most, 1024, 990, 1023);
    held("a ring of ten", Checks.withAttacks(10, "01 12 23 34 45 56 67 78 89 90"), 3, 30, 0x2AA);
    held("a ring of nine", Checks.withAttacks(9, "01 12 23 34 45 56 67 78 80"), 1, 0, 0);
    held("one against nine", Checks.withAttacks(10, "90 91 92 93 94 95 96 97 98"), 2, 10, 512);
    held("one defended by another", Checks.withAttacks(3, "01 12"), 3, 4, 0b101);
    // 1 defends itself against 0, but 2 is not defended against 0 unless 1 is in.
    held("one that needs another", Checks.withAttacks(3, "01 10 02"), 4, 5, 0b110);
  }

  private static void heaviestOfSeveral() {
    held("a tie of 0 and 1", weighing("01", 5, 5), 3, 5, 0b01);
    held("1 heavier by one", weighing("01", 5, 6), 3, 6, 0b10);
    held("0 heavier by one", weighing("01", 6, 5), 3, 6, 0b01);
    // The lowest claim counts, though the set as a number is greater.
    held("a tie of {0, 3} and {1, 2}", weighing("01 02 31 32", 1, 2, 2, 3), 7, 4, 0b1001);
    held("a tie of {0} and {1, 2, 3}", weighing("01 02 03", 6, 1, 2, 3), 9, 6, 0b0001);
    held("a tie of {1, 2, 3} and {0}", weighing("01 02 03", 6, 3, 2, 1), 9, 6, 0b0001);
    held("a tie of {0, 1, 4} and {0, 2, 3}", weighing("12 13 42 43", 9, 4, 3, 3, 2), 14, 15, 0b10011);
    held("a tie of three", weighing("01 02 03 12 13 23", 1, 7, 7, 7), 5, 7, 0b0010);
    // {0, 5}, {0, 4}, {1, 2, 3}: the first two have the lowest claim that tells, and 4 tells those two apart.
    held("a tie of three sets", weighing("01 02 03 45 14 24 34 15 25 35", 5, 2, 2, 3, 2, 2), 13, 7, 0b010001);
    held("a tie of the highest", weighing("89", 1, 1, 1, 1, 1, 1, 1, 1, 1, 1), 768, 9, 0x1FF);
  }

  private static void setsOfClaims() {
    for (int claims = 0; claims <= 10; claims++) {
      OpinionReactor r = Checks.withClaims(claims);
      int all = (1 << claims) - 1;
      C.due("isPosition of all " + claims, r.isPosition(all), true);
      C.refuses("isPosition of the next claim alone of " + claims, Checks.ARGUMENT, () -> r.isPosition(all + 1));
      C.refuses("isPosition of all and the next", Checks.ARGUMENT, () -> r.isPosition(2 * all + 1));
      C.refuses("isPosition of a far claim", Checks.ARGUMENT, () -> r.isPosition(1 << 30));
      C.refuses("isPosition of a negative number", Checks.ARGUMENT, () -> r.isPosition(-1));
      C.refuses("isPosition of the least number", Checks.ARGUMENT, () -> r.isPosition(Integer.MIN_VALUE));
    }
    OpinionReactor last = Checks.withAttacks(10, "98");
    C.due("isPosition(512)", last.isPosition(512), true);
    C.due("isPosition(256)", last.isPosition(256), false);
    C.due("isPosition(511)", last.isPosition(511), false);
    C.due("isPosition(767)", last.isPosition(767), true);
    C.due("isPosition(1023)", last.isPosition(1023), false);
  }

  // ---- promises 18 to 22

  private static void circled(String attacks, int claims, int number, String sizes) {
    OpinionReactor r = Checks.withAttacks(claims, attacks);
    C.due("circles of " + attacks, r.circles(), number);
    C.due("circlesByReach of " + attacks, r.circlesByReach(), number);
    for (int i = 0; i < claims; i++) {
      C.due("circleSize(" + i + ") of " + attacks, r.circleSize(i), Integer.parseInt(sizes, i, i + 1, 16));
    }
  }

  private static void circles() {
    circled("00", 1, 1, "1");
    circled("00 11 22 33 44 55 66 77 88 99", 10, 10, "1111111111");
    circled("01 12 23 34 45 56 67 78 89", 10, 10, "1111111111");
    circled("01 12 23 34 45 56 67 78 89 90", 10, 1, "aaaaaaaaaa");
    circled("98 87 76 65 54 43 32 21 10 09", 10, 1, "aaaaaaaaaa");
    circled("05 59 93 38 86 61 17 72 24 40", 10, 1, "aaaaaaaaaa");
    circled("09 90", 10, 9, "2111111112");
    circled("89 98 78", 10, 9, "1111111122");
    circled("01 10 12 21", 3, 1, "333");
    circled("01 10 12 32 23", 4, 2, "2222");
    OpinionReactor r = Checks.withClaims(10);
    C.due("circles of ten apart", r.circles(), 10);
    C.due("circlesByReach of ten apart", r.circlesByReach(), 10);
  }

  private static void chained(OpinionReactor r, int first, int last, int length, int number) {
    String call = "(" + first + ", " + last + ", " + length + ")";
    C.due("chains" + call, r.chains(first, last, length), number);
    C.due("chainsBySteps" + call, r.chainsBySteps(first, last, length), number);
  }

  private static void chains() {
    OpinionReactor all = Checks.withClaims(10);
    for (int i = 0; i < 100; i++) {
      all.setAttack(i / 10, i % 10, true);
    }
    chained(all, 0, 0, 0, 1);
    chained(all, 9, 9, 0, 1);
    chained(all, 0, 9, 0, 0);
    chained(all, 9, 0, 1, 1);
    // The modulus is 1000003: a million is below it, ten millions are nine times above it.
    chained(all, 0, 9, 7, 1000000);
    chained(all, 9, 0, 8, 10000000 - 9 * 1000003);
    long power = 1;
    for (int i = 0; i < 998; i++) {
      power = power * 10 % 1000003;
    }
    chained(all, 9, 9, 999, (int) power);
    OpinionReactor ring = Checks.withAttacks(10, "01 12 23 34 45 56 67 78 89 90");
    chained(ring, 0, 9, 9, 1);
    chained(ring, 0, 9, 8, 0);
    chained(ring, 0, 9, 10, 0);
    chained(ring, 0, 9, 999, 1);
    chained(ring, 0, 0, 999, 0);
    chained(ring, 9, 0, 991, 1);
    OpinionReactor self = Checks.withAttacks(1, "00");
    for (int length : new int[] {0, 1, 2, 511, 512, 998, 999}) {
      chained(self, 0, 0, length, 1);
    }
    OpinionReactor alone = Checks.withClaims(1);
    chained(alone, 0, 0, 0, 1);
    chained(alone, 0, 0, 1, 0);
    chained(alone, 0, 0, 999, 0);
  }

  // ---- promises 23 to 27

  private static void racks() {
    String kinds = "qoaaoqq";
    for (int layer = 0; layer < 4; layer++) {
      OpinionReactor r = new OpinionReactor();
      char old = 'a';
      for (char kind : kinds.toCharArray()) {
        C.due("setRack(" + layer + ", " + kind + ")", r.setRack(layer, kind), old);
        String want = "a... a... a... a...";
        want = want.substring(0, layer * 5) + kind + want.substring(layer * 5 + 1);
        C.due("racks after it", Checks.racks(r), want);
        old = kind;
      }
      for (int slot = 0; slot < 3; slot++) {
        r.insert(layer, slot, 'q');
        int used = layer;
        C.refuses("setRack with a remark in slot " + slot, Checks.STATE, () -> r.setRack(used, 'q'));
        C.due("setRack of another layer", r.setRack((layer + 1) % 4, 'a'), 'a');
        r.withdraw(layer, slot);
        C.due("setRack when it is empty again", r.setRack(layer, 'q'), 'q');
      }
    }
    OpinionReactor holding = new OpinionReactor();
    holding.setRack(0, 'q');
    holding.setRack(0, 'a');
    C.due("a rack for all after one for questions", holding.insert(0, 0, 'o'), 3);
    holding.setRack(1, 'o');
    C.refuses("a new rack for objections", Checks.UNSUPPORTED, () -> holding.insert(1, 0, 'q'));
    C.refuses("a new rack for objections of objections", Checks.STATE, () -> holding.insert(0, 0, 'q'));
  }

  private static void slots() {
    for (int place = 0; place < 12; place++) {
      OpinionReactor r = new OpinionReactor();
      int layer = place / 3;
      int slot = place % 3;
      C.due("remarkAt at first", r.remarkAt(layer, slot), '.');
      C.refuses("withdraw at first", Checks.MISSING, () -> r.withdraw(layer, slot));
      C.due("insert q", r.insert(layer, slot, 'q'), 2);
      C.due("withdraw q", r.withdraw(layer, slot), 'q');
      C.due("insert o", r.insert(layer, slot, 'o'), 3);
      C.due("insert beside it", r.insert(layer, (slot + 1) % 3, 'q'), 5);
      for (int other = 0; other < 12; other++) {
        char want = other == place ? 'o' : other == layer * 3 + (slot + 1) % 3 ? 'q' : '.';
        C.due("remarkAt " + other + " with " + place, r.remarkAt(other / 3, other % 3), want);
      }
      for (int other = 0; other < 4; other++) {
        C.due("depthOf " + other + " with " + place, r.depthOf(other), other == layer ? 5 : 0);
      }
      C.due("insert into the last slot", r.insert(layer, (slot + 2) % 3, 'q'), 7);
      C.refuses("insert into a full rack", Checks.STATE, () -> r.insert(layer, slot, 'q'));
      C.due("withdraw o", r.withdraw(layer, slot), 'o');
      C.due("depth after it", r.depthOf(layer), 4);
    }
    OpinionReactor deep = new OpinionReactor();
    C.due("depth of one objection", deep.insert(3, 0, 'o'), 3);
    C.due("depth of two objections", deep.insert(3, 1, 'o'), 6);
    C.due("depth of three objections", deep.insert(3, 2, 'o'), 9);
    C.due("depth of one question", deep.insert(2, 2, 'q'), 2);
    C.due("depth of two questions", deep.insert(2, 1, 'q'), 4);
    C.due("depth of three questions", deep.insert(2, 0, 'q'), 6);
  }

  // ---- promises 28 to 37

  private static void exciteTimes(OpinionReactor r, int claim, int times) {
    for (int i = 0; i < times; i++) {
      r.excite(claim, 1000);
    }
  }

  private static void amounts() {
    OpinionReactor r = Checks.withClaims(10);
    C.due("excite(9, 1)", r.excite(9, 1), 1f);
    C.due("excite(9, 1000)", r.excite(9, 1000), 1001f);
    C.due("excite(0, 1000)", r.excite(0, 1000), 1000f);
    exciteTimes(r, 0, 97);
    C.due("excite up to a thousand below the bound", r.excite(0, 999), 98999f);
    C.due("excite up to the bound", r.excite(0, 1000), 99999f);
    C.due("excite by 1 above the bound", r.excite(0, 1), 99999f);
    C.due("flux at the bound", r.fluxOf(0), 99999f);
    C.due("bits at the bound", r.fluxBits(0), Float.floatToIntBits(99999f));
    C.due("power above the bound of one claim", r.power(), 101000f);
    exciteTimes(r, 8, 99);
    C.due("flux a thousand below a hundred thousand", r.fluxOf(8), 99000f);
    C.due("excite by 1 above the bound from below", r.excite(8, 1000), 99999f);
    OpinionReactor half = Checks.withClaims(1);
    half.excite(0, 1);
    half.pass(1);
    exciteTimes(half, 0, 99);
    C.due("excite to a half above 99998", half.excite(0, 998), 99998.5f);
    C.due("excite to a half above the bound", half.excite(0, 1), 99999f);
  }

  /** One claim with some flux, in a layer with these remarks. */
  private static OpinionReactor damped(int amount, String remarks) {
    OpinionReactor r = Checks.withClaims(1);
    for (int slot = 0; slot < remarks.length(); slot++) {
      r.insert(0, slot, remarks.charAt(slot));
    }
    r.excite(0, amount);
    return r;
  }

  private static void shiftInFloat() {
    OpinionReactor once = damped(9, "o");
    once.pass(1);
    C.due("multiplied first, then divided", once.fluxOf(0), 3.15f);
    OpinionReactor questions = damped(3, "qq");
    questions.pass(1);
    C.due("multiplied first, then divided by more", questions.fluxOf(0), 0.9f);
    OpinionReactor twice = damped(1, "o");
    twice.pass(1);
    C.due("a first shift", twice.fluxOf(0), 0.35f);
    twice.pass(1);
    // In double it would be rounded to 0.122499995.
    C.due("a second shift in float", twice.fluxOf(0), 0.1225f);
    C.due("its bits", twice.fluxBits(0), Float.floatToIntBits(0.1225f));
    OpinionReactor light = damped(1, "");
    light.pass(1);
    C.due("depth 0", light.fluxOf(0), 0.5f);
    OpinionReactor heavy = damped(1, "ooo");
    heavy.pass(1);
    C.due("depth 9", heavy.fluxOf(0), 0.05f);
  }

  /** Four claims with a little flux, of which one then gets all that a claim can have. */
  private static OpinionReactor uneven(int big, int halvings) {
    OpinionReactor r = Checks.withClaims(4);
    for (int claim = 0; claim < 4; claim++) {
      r.excite(claim, 1);
    }
    r.pass(halvings);
    exciteTimes(r, big, 100);
    return r;
  }

  private static float fluxOfFourAfterShift(OpinionReactor r) {
    for (int claim = 1; claim < 4; claim++) {
      r.setAttack(claim, 0, true);
    }
    r.pass(1);
    return r.fluxOf(0);
  }

  private static float rescaled(float sum) {
    return sum * 10f / 10f;
  }

  private static void shiftInOrder() {
    // A quarter of what a float of this size can tell: it is lost beside a great one, unless the others came first.
    float quarter = 1f / 2048f;
    float great = 99999f * 0.25f;
    float own = 0.5f / 512f;
    float last = rescaled(own + quarter + quarter + great);
    float first = rescaled(own + great + quarter + quarter);
    C.due("the great attacker last", fluxOfFourAfterShift(uneven(3, 9)), last);
    C.due("the great attacker first", fluxOfFourAfterShift(uneven(1, 9)), first);
    C.due("whether the order tells", last != first, true);
    float third = 1f / 512f;
    float greatOwn = 99999f * 0.5f;
    float ownFirst = rescaled(greatOwn + third + third + third);
    C.due("the claim's own first", fluxOfFourAfterShift(uneven(0, 7)), ownFirst);
    C.due("whether the own tells", ownFirst != rescaled(third + third + third + greatOwn), true);
  }

  private static void powerInOrder() {
    float little = 1f / 256f;
    float first = 99999f + little + little + little;
    float last = little + little + little + 99999f;
    C.due("power with the great one first", uneven(0, 8).power(), first);
    C.due("power with the great one last", uneven(3, 8).power(), last);
    C.due("powerBits with the great one last", uneven(3, 8).powerBits(), Float.floatToIntBits(last));
    C.due("whether the order tells", first != last, true);
    OpinionReactor full = Checks.withClaims(10);
    full.setLimit(9999);
    for (int i = 0; i < 200; i++) {
      full.excite(i / 100, 1000);
    }
    C.due("power of two at the bound", full.power(), 199998f);
  }

  /** Claims at the bound, of which all but claim 0 attack claim 0. */
  private static OpinionReactor bounded(int claims) {
    OpinionReactor r = Checks.withClaims(claims);
    for (int claim = 0; claim < claims; claim++) {
      exciteTimes(r, claim, 100);
    }
    for (int claim = 1; claim < claims; claim++) {
      r.setAttack(claim, 0, true);
    }
    return r;
  }

  private static void shiftAtTheBound() {
    OpinionReactor below = bounded(2);
    below.pass(1);
    C.due("a result below the bound", below.fluxOf(0), 74999.25f);
    OpinionReactor at = bounded(3);
    at.pass(1);
    C.due("a result at the bound", at.fluxOf(0), 99999f);
    C.due("a result of an attacker", at.fluxOf(2), 49999.5f);
    OpinionReactor above = bounded(3);
    above.addClaim(1);
    above.setAttack(3, 0, true);
    above.excite(3, 1);
    above.pass(1);
    C.due("a result a quarter above the bound", above.fluxOf(0), 99999f);
    OpinionReactor far = bounded(4);
    far.pass(1);
    C.due("a result far above the bound", far.fluxOf(0), 99999f);
    OpinionReactor deep = bounded(4);
    deep.insert(0, 0, 'q');
    deep.insert(0, 1, 'o');
    deep.pass(1);
    C.due("the result is bounded, not the sum", deep.fluxOf(0), 99999f * 1.25f * 5f / 10f);
    OpinionReactor deeper = bounded(4);
    deeper.insert(0, 2, 'q');
    deeper.pass(1);
    C.due("a result at 0.8 of the sum", deeper.fluxOf(0), 99999f);
  }

  private static void shiftsFromOldFluxes() {
    OpinionReactor r = Checks.withAttacks(3, "01 10 12");
    r.excite(0, 8);
    r.pass(1);
    fluxes(r, 4f, 2f, 0f);
    r.pass(1);
    fluxes(r, 2.5f, 2f, 0.5f);
    OpinionReactor self = Checks.withAttacks(2, "00");
    self.excite(0, 8);
    self.excite(1, 8);
    self.pass(1);
    fluxes(self, 6f, 4f);
    OpinionReactor last = Checks.withAttacks(10, "99 90");
    last.excite(9, 8);
    last.pass(1);
    fluxes(last, 2f, 0f, 0f, 0f, 0f, 0f, 0f, 0f, 0f, 6f);
  }

  private static void fluxes(OpinionReactor r, float... want) {
    float sum = 0f;
    for (int claim = 0; claim < want.length; claim++) {
      C.due("fluxOf(" + claim + ")", r.fluxOf(claim), want[claim]);
      sum += want[claim];
    }
    C.due("power", r.power(), sum);
  }

  private static void shiftByLayers() {
    OpinionReactor r = Checks.withAttacks(4, "10 12 13");
    for (int claim = 0; claim < 4; claim++) {
      r.setLayer(claim, claim);
      r.excite(claim, 80);
    }
    r.insert(1, 0, 'q');
    r.insert(2, 1, 'o');
    r.insert(3, 0, 'o');
    r.insert(3, 1, 'o');
    r.insert(3, 2, 'o');
    r.pass(1);
    // The layer of the claim counts, not that of its attacker.
    fluxes(r, 60f, 32f, 42f, 6f);
  }

  private static void scrammed(int limit, int amount, int scrams) {
    OpinionReactor r = Checks.withClaims(10);
    int left = amount;
    for (int i = 0; left > 0; i++) {
      int part = Math.min(left, 1000);
      r.excite(i % 10, part);
      left -= part;
    }
    if (limit != 1000) {
      r.setLimit(limit);
    }
    C.due("power ahead of the shift", r.power(), (float) amount);
    C.due("pass(1) with limit " + limit + " and " + amount, r.pass(1), scrams);
    C.due("power after it", r.power(), amount / 2f);
    C.due("scrams after it", r.scrams(), scrams);
    C.due("depth after it", r.depthOf(3), scrams * 9);
    C.due("entries of it", r.logKind(0), scrams == 1 ? 's' : 'e');
  }

  private static void scramsAtTheLimit() {
    scrammed(1, 1, 0);
    scrammed(1, 2, 0);
    scrammed(1, 3, 1);
    scrammed(2, 4, 0);
    scrammed(2, 5, 1);
    scrammed(1000, 1999, 0);
    scrammed(1000, 2000, 0);
    scrammed(1000, 2001, 1);
    scrammed(9999, 19998, 0);
    scrammed(9999, 19999, 1);
    OpinionReactor bits = Checks.withClaims(1);
    bits.excite(0, 1);
    bits.pass(20);
    bits.excite(0, 1);
    bits.excite(0, 1);
    bits.setLimit(1);
    C.due("power that is just above the limit", bits.pass(1), 1);
    C.due("pass(1) then", bits.pass(1), 0);
  }

  private static void scramsAtTheEndOfAShift() {
    OpinionReactor r = Checks.withClaims(2);
    r.setLimit(1);
    r.excite(0, 1000);
    C.due("no scram without a shift", r.scrams(), 0);
    C.due("no depth without a shift", r.depthOf(0), 0);
    r.setLimit(500);
    C.due("a shift to the limit", r.pass(1), 0);
    r.setLimit(249);
    C.due("a shift above the limit", r.pass(1), 1);
    // The racks damp from the next shift on.
    C.due("the flux of the shift with a scram", r.fluxOf(0), 250f);
    C.due("the next shift", r.pass(1), 0);
    C.due("the flux of the next shift", r.fluxOf(0), 12.5f);
    C.due("the racks stay full", Checks.racks(r), "aooo aooo aooo aooo");
    C.due("scrams", r.scrams(), 1);
  }

  private static void scramsOfFullRacks() {
    OpinionReactor r = Checks.withClaims(1);
    r.setRack(1, 'q');
    r.setRack(2, 'o');
    r.insert(0, 0, 'q');
    r.insert(1, 1, 'q');
    r.insert(2, 2, 'o');
    r.insert(3, 0, 'q');
    r.insert(3, 1, 'q');
    r.insert(3, 2, 'q');
    r.setLimit(1);
    exciteTimes(r, 0, 20);
    C.due("a scram", r.pass(1), 1);
    C.due("each empty slot got what its rack can hold", Checks.racks(r), "aqoo qqqq oooo aqqq");
    C.due("scrams with full racks", r.pass(2), 2);
    C.due("racks as they were", Checks.racks(r), "aqoo qqqq oooo aqqq");
    C.due("scrams", r.scrams(), 3);
    C.due("entries of scrams with full racks", Checks.log(r).substring(0, 11), "s3 s2 s1 e0");
    r.withdraw(0, 0);
    r.withdraw(1, 2);
    r.withdraw(3, 1);
    exciteTimes(r, 0, 1);
    C.due("a later scram", r.pass(1), 1);
    C.due("racks after the later scram", Checks.racks(r), "aooo qqqq oooo aqoq");
  }

  private static void numbersOfShifts() {
    OpinionReactor r = Checks.withClaims(1);
    C.due("shiftCount at first", r.shiftCount(), 0);
    C.refuses("pass(0)", Checks.ARGUMENT, () -> r.pass(0));
    C.due("shiftCount after pass(0)", r.shiftCount(), 0);
    r.pass(1);
    C.due("shiftCount after pass(1)", r.shiftCount(), 1);
    r.pass(20);
    C.due("shiftCount after pass(20)", r.shiftCount(), 21);
    C.refuses("pass(21)", Checks.ARGUMENT, () -> r.pass(21));
    C.due("shiftCount after pass(21)", r.shiftCount(), 21);
    C.due("the first limit", r.setLimit(1), 1000);
    C.due("the least limit", r.setLimit(9999), 1);
    C.refuses("setLimit(0)", Checks.ARGUMENT, () -> r.setLimit(0));
    C.refuses("setLimit(10000)", Checks.ARGUMENT, () -> r.setLimit(10000));
    C.due("the greatest limit", r.setLimit(2), 9999);
  }

  private static OpinionReactor falling(int amount) {
    OpinionReactor r = Checks.withAttacks(2, "00 10 01 11");
    r.insert(0, 0, 'q');
    r.excite(0, amount);
    return r;
  }

  private static void lookingAhead() {
    OpinionReactor r = Checks.withClaims(1);
    C.due("until below the least level without flux", r.shiftsUntilBelow(1), 0);
    C.due("until below the greatest level without flux", r.shiftsUntilBelow(9999), 0);
    r.excite(0, 1);
    C.due("until below the power itself", r.shiftsUntilBelow(1), 1);
    C.due("until below one more", r.shiftsUntilBelow(2), 0);
    OpinionReactor great = Checks.withClaims(1);
    exciteTimes(great, 0, 10);
    C.due("10000 until below 9999", great.shiftsUntilBelow(9999), 1);
    OpinionReactor equal = Checks.withClaims(1);
    exciteTimes(equal, 0, 9);
    C.due("excite up to 9999", equal.excite(0, 999), 9999f);
    C.due("9999 until below 9999", equal.shiftsUntilBelow(9999), 1);
    OpinionReactor last = falling(800);
    C.due("30 shifts", last.shiftsUntilBelow(1), 30);
    last.pass(1);
    C.due("29 shifts", last.shiftsUntilBelow(1), 29);
    OpinionReactor late = falling(1000);
    C.refuses("31 shifts", Checks.MISSING, () -> late.shiftsUntilBelow(1));
    late.pass(1);
    C.due("30 of 31 shifts", late.shiftsUntilBelow(1), 30);
    C.due("shiftCount after looking ahead", late.shiftCount(), 1);
  }

  private static void lookingAheadWithScrams() {
    OpinionReactor r = Checks.withClaims(1);
    r.setRack(0, 'q');
    r.setLimit(9);
    r.excite(0, 40);
    // 20 and 4 are after the shifts with a scram and without one; without scrams 20, 10, 5, 2.5 would be due.
    C.due("until below 5 with a scram", r.shiftsUntilBelow(5), 2);
    C.due("until below 4 with a scram", r.shiftsUntilBelow(4), 3);
    C.due("scrams after looking ahead", r.scrams(), 0);
    C.due("racks after looking ahead", Checks.racks(r), "q... a... a... a...");
    C.due("entries after looking ahead", Checks.log(r), "e0");
    C.due("flux after looking ahead", r.fluxOf(0), 40f);
    C.due("undo after looking ahead", r.undo(), 3);
    r.excite(0, 40);
    C.due("pass(2) as foreseen", r.pass(2), 1);
    C.due("power as foreseen", r.power(), 4f);
  }

  // ---- promises 38 to 41

  private static void ranked(OpinionReactor r, int... claims) {
    for (int rank = 0; rank < claims.length; rank++) {
      C.due("claimAtRank(" + rank + ")", r.claimAtRank(rank), claims[rank]);
    }
    C.refuses("the rank after the last", Checks.MISSING, () -> r.claimAtRank(claims.length));
    C.refuses("the rank ahead of the first", Checks.MISSING, () -> r.claimAtRank(-1));
  }

  private static void ranks() {
    ranked(new OpinionReactor());
    ranked(Checks.withClaims(1), 0);
    OpinionReactor r = Checks.withClaims(10);
    ranked(r, 9, 8, 7, 6, 5, 4, 3, 2, 1, 0);
    r.excite(0, 2);
    r.excite(3, 2);
    r.excite(5, 1);
    ranked(r, 3, 0, 5, 9, 8, 7, 6, 4, 2, 1);
    OpinionReactor same = new OpinionReactor();
    for (int i = 0; i < 10; i++) {
      same.addClaim(50);
    }
    ranked(same, 0, 1, 2, 3, 4, 5, 6, 7, 8, 9);
    same.excite(9, 1);
    ranked(same, 9, 0, 1, 2, 3, 4, 5, 6, 7, 8);
    OpinionReactor little = new OpinionReactor();
    little.addClaim(1);
    little.addClaim(99);
    little.excite(0, 1);
    little.pass(20);
    // Any difference in flux counts more than all in weight.
    ranked(little, 0, 1);
    little.pass(20);
    little.excite(1, 1);
    ranked(little, 1, 0);
  }

  private static void log() {
    OpinionReactor r = Checks.withClaims(1);
    for (int turn = 0; turn < 22; turn++) {
      int count = Math.min(turn, 16);
      C.due("logCount after " + turn, r.logCount(), count);
      if (count > 0) {
        entry(r, 0, turn - 1);
        entry(r, count - 1, turn - count);
      }
      C.refuses("logShift after the oldest", Checks.MISSING, () -> r.logShift(count));
      C.refuses("logKind after the oldest", Checks.MISSING, () -> r.logKind(count));
      noted(r, turn);
      r.pass(1);
    }
    for (int recency = 0; recency < 16; recency++) {
      entry(r, recency, 21 - recency);
    }
    C.refuses("logShift(-1)", Checks.MISSING, () -> r.logShift(-1));
    C.refuses("logKind(-1)", Checks.MISSING, () -> r.logKind(-1));
  }

  private static void entry(OpinionReactor r, int recency, int turn) {
    C.due("logShift(" + recency + ") of turn " + turn, r.logShift(recency), turn);
    C.due("logKind(" + recency + ") of turn " + turn, r.logKind(recency), "eiw".charAt(turn % 3));
  }

  private static void noted(OpinionReactor r, int turn) {
    switch (turn % 3) {
      case 0 -> r.excite(0, 1);
      case 1 -> r.insert(3, 2, 'o');
      default -> r.withdraw(3, 2);
    }
  }

  /** With racks of questions its power grows, so that each shift ends with a scram. */
  private static OpinionReactor growing() {
    OpinionReactor r = Checks.withClaims(10);
    for (int i = 0; i < 100; i++) {
      r.setAttack(i / 10, i % 10, true);
    }
    r.setRack(0, 'q');
    r.setLimit(1);
    r.excite(0, 100);
    return r;
  }

  private static void logOfScrams() {
    OpinionReactor r = growing();
    C.due("scrams of pass(14)", r.pass(14), 14);
    C.due("logCount of 15", r.logCount(), 15);
    C.due("pass(1)", r.pass(1), 1);
    C.due("logCount of 16", r.logCount(), 16);
    C.due("the oldest of 16", "" + r.logKind(15) + r.logShift(15), "e0");
    C.due("pass(1) again", r.pass(1), 1);
    C.due("logCount of 17", r.logCount(), 16);
    C.due("the oldest of 17", "" + r.logKind(15) + r.logShift(15), "s1");
    OpinionReactor most = growing();
    C.due("scrams of pass(20)", most.pass(20), 20);
    C.due("log of 20 scrams", Checks.log(most), "s20 s19 s18 s17 s16 s15 s14 s13 s12 s11 s10 s9 s8 s7 s6 s5");
    C.due("scrams", most.scrams(), 20);
    C.due("pass(20) again", most.pass(20), 20);
    C.due("scrams of both", most.scrams(), 40);
    C.due("shiftCount of both", most.shiftCount(), 40);
    C.due("undo of the second", most.undo() >= 0 && most.scrams() == 20, true);
    C.due("its oldest entry", most.logShift(15), 5);
    C.due("undo of the first", most.undo() >= 0 && most.scrams() == 0, true);
    C.due("its log", Checks.log(most), "e0");
  }

  private static void logOfCommands() {
    OpinionReactor r = new OpinionReactor();
    Checks.run(r, "claim 9;insert 00o;excite 0+9;pass 1;draw 00;limit 1");
    C.due("log of commands", Checks.log(r), "w1 e0 i0");
    Checks.run(r, "calm 0>0;attack 0>0;layer 0=1;rack 0q;claim 1;limit 9");
    C.due("log of other commands", Checks.log(r), "w1 e0 i0");
    C.refuses("a run that fails", Checks.STATE, () -> Checks.run(r, "excite 0+9;insert 10q;draw 10;draw 10"));
    C.due("log of a failed run", Checks.log(r), "w1 e0 i0");
    Checks.run(r, "limit 1;excite 0+99;pass 2");
    C.due("log of scrams by commands", Checks.log(r), "s3 s2 e1 w1 e0 i0");
  }

  private static void logOfOtherCalls() {
    OpinionReactor r = Checks.withAttacks(2, "01");
    r.setLayer(0, 1);
    r.setRack(1, 'q');
    r.setLimit(7);
    r.pass(20);
    r.describeRacks();
    r.isConsistent();
    r.save();
    r.undo();
    r.restore();
    C.due("logCount without an entry", r.logCount(), 0);
    C.refuses("a refused excite", Checks.ARGUMENT, () -> r.excite(0, 1001));
    C.refuses("a refused insert", Checks.UNSUPPORTED, () -> r.insert(1, 0, 'o'));
    C.refuses("a refused withdraw", Checks.MISSING, () -> r.withdraw(1, 0));
    C.due("logCount after refused calls", r.logCount(), 0);
  }

  private static void logThatComesBack() {
    OpinionReactor r = Checks.withClaims(1);
    for (int i = 0; i < 15; i++) {
      r.excite(0, 1);
    }
    r.pass(1);
    r.insert(0, 0, 'q');
    r.save();
    String full = Checks.log(r);
    C.due("a full log", full, "i1 e0 e0 e0 e0 e0 e0 e0 e0 e0 e0 e0 e0 e0 e0 e0");
    r.withdraw(0, 0);
    r.excite(0, 1);
    C.due("a log with two lost", Checks.log(r), "e1 w1 i1 e0 e0 e0 e0 e0 e0 e0 e0 e0 e0 e0 e0 e0");
    r.undo();
    r.undo();
    C.due("the lost come back by undo", Checks.log(r), full);
    r.undo();
    C.due("a log with room", r.logCount(), 15);
    r.excite(0, 1);
    r.excite(0, 1);
    r.restore();
    C.due("the lost come back by restore", Checks.log(r), full);
    r.withdraw(0, 0);
    C.due("the next entry", Checks.log(r), "w1 i1 e0 e0 e0 e0 e0 e0 e0 e0 e0 e0 e0 e0 e0 e0");
  }
}
