import java.util.Random;

/** Long runs of calls, drawn from fixed seeds, on the class and on the model; all answers must be the same. */
public final class ModelTest {
  private static final int RUNS = 600;
  private static final int CALLS = 512;
  private static final String[] COMMANDS = {
      "claim #", "attack d>d", "calm d>d", "layer d=l", "rack lK", "insert lsR", "draw ls", "excite d+#", "limit #",
      "pass p"};

  private final Checks checks = new Checks();
  private Random random = null;
  private OpinionReactor real = null;
  private Model model = null;
  private String pending = "";
  private int most = 0;
  private int calls = 0;

  public static void main(String[] args) {
    ModelTest test = new ModelTest();
    for (int seed = 0; seed < RUNS; seed++) {
      test.oneRun(seed);
    }
    test.checks.end();
  }

  private void oneRun(int seed) {
    random = new Random(seed);
    real = new OpinionReactor();
    model = new Model();
    pending = "";
    most = 1 + random.nextInt(12);
    calls = 0;
    // A step makes two calls at most.
    while (calls < CALLS - 1) {
      if (!pending.isEmpty()) {
        character();
      } else if (random.nextInt(100) < 45) {
        changing(random.nextInt(14));
      } else {
        reading(random.nextInt(40));
      }
    }
  }

  private void same(String what, Checks.Call got, Checks.Call want) {
    calls++;
    checks.due(what, Checks.outcome(got), Checks.outcome(want));
  }

  /** Mostly from 0 to most - 1, sometimes at or beyond the edges. */
  private int number(int most) {
    int draw = random.nextInt(40);
    if (draw == 0) {
      return -1;
    }
    if (draw == 1) {
      return most;
    }
    if (draw == 2) {
      return random.nextBoolean() ? random.nextInt() : random.nextInt(40) - 5;
    }
    return most > 0 ? random.nextInt(most) : 0;
  }

  private int claim() {
    return number(model.claimCount());
  }

  private int edge(int least, int most) {
    int[] edges = {least - 1, least, most, most + 1};
    return random.nextInt(12) == 0 ? edges[random.nextInt(4)] : least + random.nextInt(most - least + 1);
  }

  private char letter(String letters) {
    return random.nextInt(30) == 0 ? (char) random.nextInt(300) : letters.charAt(random.nextInt(letters.length()));
  }

  private void character() {
    char next = pending.charAt(0);
    if (next == '\n') {
      pending = pending.substring(1);
      same("run", () -> real.run(), () -> model.run());
      return;
    }
    pending = pending.substring(1);
    same("append " + next, () -> real.append(next), () -> model.append(next));
  }

  private String filled(String form) {
    StringBuilder text = new StringBuilder();
    for (char part : form.toCharArray()) {
      switch (part) {
        case '#' -> text.append(random.nextInt(random.nextInt(8) == 0 ? 12000 : 100));
        case 'd' -> text.append(random.nextInt(Math.max(1, Math.min(10, model.claimCount() + 1))));
        case 'l' -> text.append(random.nextInt(9) / 2);
        case 's' -> text.append(random.nextInt(13) / 4);
        case 'p' -> text.append(random.nextInt(23));
        case 'K' -> text.append("qoa".charAt(random.nextInt(3)));
        case 'R' -> text.append("qo".charAt(random.nextInt(2)));
        default -> text.append(part);
      }
    }
    return text.toString();
  }

  private String commands() {
    StringBuilder text = new StringBuilder();
    int number = 1 + random.nextInt(random.nextInt(3) == 0 ? 8 : 3);
    for (int i = 0; i < number; i++) {
      String form = COMMANDS[random.nextInt(COMMANDS.length)];
      // Only the first letters that stand for something may be filled in, not those of the keyword.
      int space = form.indexOf(' ') + 1;
      text.append(i > 0 ? ";" : "").append(form, 0, space).append(filled(form.substring(space)));
    }
    int place = random.nextInt(text.length());
    switch (random.nextInt(8)) {
      case 0 -> text.setCharAt(place, (char) (32 + random.nextInt(95)));
      case 1 -> text.deleteCharAt(place);
      case 2 -> text.insert(place, text.charAt(random.nextInt(text.length())));
      case 3 -> text.setLength(place);
      default -> { }
    }
    return text + "\n";
  }

  private void changing(int kind) {
    int claim = claim();
    int other = claim();
    int layer = number(4);
    int slot = number(3);
    switch (kind) {
      case 0, 1 -> {
        int weight = random.nextBoolean() ? edge(1, 99) : 1 + random.nextInt(3);
        if (model.claimCount() < most) {
          same("addClaim " + weight, () -> real.addClaim(weight), () -> model.addClaim(weight));
        }
      }
      case 2, 3, 4, 5 -> {
        boolean isAttack = random.nextInt(3) > 0;
        same("setAttack " + claim + " " + other, () -> real.setAttack(claim, other, isAttack),
            () -> model.setAttack(claim, other, isAttack));
      }
      case 6 -> same("setLayer " + claim + " " + layer, () -> real.setLayer(claim, layer),
          () -> model.setLayer(claim, layer));
      case 7 -> {
        char rack = letter("qoa");
        same("setRack " + layer + rack, () -> real.setRack(layer, rack), () -> model.setRack(layer, rack));
      }
      case 8 -> {
        char remark = letter("qo");
        same("insert " + layer + " " + slot + remark, () -> real.insert(layer, slot, remark),
            () -> model.insert(layer, slot, remark));
      }
      case 9 -> same("withdraw " + layer + " " + slot, () -> real.withdraw(layer, slot),
          () -> model.withdraw(layer, slot));
      case 10 -> {
        int amount = edge(1, 1000);
        same("excite " + claim + " " + amount, () -> real.excite(claim, amount), () -> model.excite(claim, amount));
      }
      case 11 -> {
        int shifts = random.nextInt(3) == 0 ? edge(1, 20) : 1 + random.nextInt(2);
        same("pass " + shifts, () -> real.pass(shifts), () -> model.pass(shifts));
      }
      case 12 -> pending = commands();
      default -> rarer(random.nextInt(6));
    }
  }

  private void rarer(int kind) {
    switch (kind) {
      case 0 -> same("save", () -> real.save(), () -> model.save());
      case 1 -> same("restore", () -> real.restore(), () -> model.restore());
      case 2 -> {
        int limit = random.nextBoolean() ? edge(1, 9999) : 1 + random.nextInt(100);
        same("setLimit " + limit, () -> real.setLimit(limit), () -> model.setLimit(limit));
      }
      default -> same("undo", () -> real.undo(), () -> model.undo());
    }
  }

  private void reading(int kind) {
    int claim = claim();
    int other = claim();
    int layer = number(4);
    int slot = number(3);
    switch (kind) {
      case 0 -> same("claimCount", () -> real.claimCount(), () -> model.claimCount());
      case 1 -> same("weightOf " + claim, () -> real.weightOf(claim), () -> model.weightOf(claim));
      case 2 -> same("layerOf " + claim, () -> real.layerOf(claim), () -> model.layerOf(claim));
      case 3 -> same("attacks", () -> real.attacks(claim, other), () -> model.attacks(claim, other));
      case 4 -> same("acceptedBits", () -> real.acceptedBits(), () -> model.acceptedBits());
      case 5 -> same("acceptedBitsByLabels", () -> real.acceptedBitsByLabels(), () -> model.acceptedBits());
      case 6 -> same("isRejected " + claim, () -> real.isRejected(claim), () -> model.isRejected(claim));
      case 7 -> same("undecidedCount", () -> real.undecidedCount(), () -> model.undecidedCount());
      case 8 -> same("positions", () -> real.positions(), () -> model.positions());
      case 9 -> same("positionsByDeciding", () -> real.positionsByDeciding(), () -> model.positions());
      case 10 -> same("heaviestWeight", () -> real.heaviestWeight(), () -> model.heaviestWeight());
      case 11 -> same("heaviestBits", () -> real.heaviestBits(), () -> model.heaviestBits());
      case 12 -> {
        int set = number(1 << model.claimCount());
        same("isPosition " + set, () -> real.isPosition(set), () -> model.isPosition(set));
      }
      case 13 -> same("circles", () -> real.circles(), () -> model.circles());
      case 14 -> same("circlesByReach", () -> real.circlesByReach(), () -> model.circles());
      case 15 -> same("circleSize " + claim, () -> real.circleSize(claim), () -> model.circleSize(claim));
      case 16, 17 -> {
        int length = random.nextInt(4) == 0 ? edge(0, 999) : random.nextInt(40);
        same("chains of " + length, () -> real.chains(claim, other, length),
            () -> model.chains(claim, other, length));
        same("chainsBySteps of " + length, () -> real.chainsBySteps(claim, other, length),
            () -> model.chains(claim, other, length));
      }
      case 18 -> same("remarkAt", () -> real.remarkAt(layer, slot), () -> model.remarkAt(layer, slot));
      case 19 -> same("depthOf " + layer, () -> real.depthOf(layer), () -> model.depthOf(layer));
      case 20 -> same("fluxOf " + claim, () -> real.fluxOf(claim), () -> model.fluxOf(claim));
      case 21 -> same("fluxBits " + claim, () -> real.fluxBits(claim), () -> model.fluxBits(claim));
      case 22 -> same("power", () -> real.power(), () -> model.power());
      case 23 -> same("powerBits", () -> real.powerBits(), () -> model.powerBits());
      default -> readingMore(kind, claim);
    }
  }

  private void readingMore(int kind, int claim) {
    switch (kind) {
      case 24, 25 -> {
        int level = random.nextBoolean() ? edge(1, 9999) : 1 + random.nextInt(20);
        same("shiftsUntilBelow " + level, () -> real.shiftsUntilBelow(level), () -> model.shiftsUntilBelow(level));
      }
      case 26 -> same("shiftCount", () -> real.shiftCount(), () -> model.shiftCount());
      case 27 -> same("scrams", () -> real.scrams(), () -> model.scrams());
      case 28 -> same("claimAtRank " + claim, () -> real.claimAtRank(claim), () -> model.claimAtRank(claim));
      case 29 -> same("logCount", () -> real.logCount(), () -> model.logCount());
      case 30 -> {
        int recency = number(model.logCount());
        same("logShift " + recency, () -> real.logShift(recency), () -> model.logShift(recency));
        same("logKind " + recency, () -> real.logKind(recency), () -> model.logKind(recency));
      }
      case 31 -> same("errorPosition", () -> real.errorPosition(), () -> model.errorPosition());
      case 32 -> same("failedCommand", () -> real.failedCommand(), () -> model.failedCommand());
      case 33 -> same("describeClaim " + claim, () -> real.describeClaim(claim), () -> model.describeClaim(claim));
      case 34 -> same("describeRacks", () -> real.describeRacks(), () -> model.describeRacks());
      case 35, 36 -> {
        int index = number(random.nextBoolean() ? 19 : 4);
        same("lineAt " + index, () -> real.lineAt(index), () -> model.lineAt(index));
      }
      case 37 -> same("meanWeight", () -> real.meanWeight(), () -> model.meanWeight());
      case 38 -> same("meanWeightBits", () -> real.meanWeightBits(), () -> model.meanWeightBits());
      default -> same("isConsistent", () -> real.isConsistent(), () -> model.isConsistent());
    }
  }
}
