import java.math.BigInteger;
import java.util.ArrayDeque;
import java.util.ArrayList;
import java.util.Arrays;
import java.util.Comparator;
import java.util.Deque;
import java.util.List;
import java.util.NoSuchElementException;
import java.util.TreeSet;
import java.util.regex.Matcher;
import java.util.regex.Pattern;

/** The document once more, in the most literal way and by other means than the class: what ModelTest compares with. */
final class Model {
  private static final Pattern TEXT;
  private static final String NUMBER = "[0-9][0-9]?[0-9]?[0-9]?";

  static {
    String command = "(claim " + NUMBER + "|attack [0-9]>[0-9]|calm [0-9]>[0-9]|layer [0-9]=[0-9]|rack [0-9][qoa]"
        + "|insert [0-9][0-9][qo]|draw [0-9][0-9]|excite [0-9][+]" + NUMBER + "|limit " + NUMBER + "|pass " + NUMBER
        + ")";
    TEXT = Pattern.compile(command + "(;" + command + ")*");
  }

  private static final class Claim {
    int weight;
    int layer = 0;
    float flux = 0f;
    TreeSet<Integer> victims = new TreeSet<>();

    Claim copy() {
      Claim copy = new Claim();
      copy.weight = weight;
      copy.layer = layer;
      copy.flux = flux;
      copy.victims = new TreeSet<>(victims);
      return copy;
    }
  }

  private static final class World {
    List<Claim> claims = new ArrayList<>();
    StringBuilder racks = new StringBuilder("a... a... a... a...");
    List<String> log = new ArrayList<>();
    int limit = 1000;
    int shifts = 0;
    int scrams = 0;

    World copy() {
      World copy = new World();
      for (Claim claim : claims) {
        copy.claims.add(claim.copy());
      }
      copy.racks = new StringBuilder(racks);
      copy.log = new ArrayList<>(log);
      copy.limit = limit;
      copy.shifts = shifts;
      copy.scrams = scrams;
      return copy;
    }
  }

  private World world = new World();
  private World snapshot = null;
  private final Deque<World> history = new ArrayDeque<>();
  private boolean isInRun = false;
  private String text = "";
  private String line = "";
  private Integer error = null;
  private Integer failed = null;

  private void change() {
    if (!isInRun) {
      history.addLast(world.copy());
      if (history.size() > 8) {
        history.removeFirst();
      }
    }
  }

  private static void index(boolean isGood) {
    if (!isGood) {
      throw new IndexOutOfBoundsException();
    }
  }

  private static void argument(boolean isGood) {
    if (!isGood) {
      throw new IllegalArgumentException();
    }
  }

  private static void state(boolean isGood) {
    if (!isGood) {
      throw new IllegalStateException();
    }
  }

  private static void element(boolean isGood) {
    if (!isGood) {
      throw new NoSuchElementException();
    }
  }

  private static boolean in(int number, int least, int most) {
    return number >= least && number <= most;
  }

  private Claim at(int claim) {
    index(in(claim, 0, world.claims.size() - 1));
    return world.claims.get(claim);
  }

  private void log(char kind) {
    world.log.add(0, kind + "" + world.shifts);
    if (world.log.size() > 16) {
      world.log.remove(16);
    }
  }

  int addClaim(int weight) {
    argument(in(weight, 1, 99));
    state(world.claims.size() < 10);
    change();
    Claim claim = new Claim();
    claim.weight = weight;
    world.claims.add(claim);
    return world.claims.size() - 1;
  }

  boolean setAttack(int claim, int other, boolean isAttack) {
    at(claim);
    at(other);
    change();
    TreeSet<Integer> victims = at(claim).victims;
    return isAttack ? !victims.add(other) : victims.remove(other);
  }

  int setLayer(int claim, int layer) {
    at(claim);
    index(in(layer, 0, 3));
    change();
    int old = at(claim).layer;
    at(claim).layer = layer;
    return old;
  }

  int claimCount() {
    return world.claims.size();
  }

  int weightOf(int claim) {
    return at(claim).weight;
  }

  int layerOf(int claim) {
    return at(claim).layer;
  }

  boolean attacks(int claim, int other) {
    at(other);
    return at(claim).victims.contains(other);
  }

  private boolean isIn(int set, int claim) {
    return BigInteger.valueOf(set).testBit(claim);
  }

  private boolean defends(int set, int claim) {
    for (int attacker = 0; attacker < claimCount(); attacker++) {
      if (attacks(attacker, claim)) {
        boolean isAnswered = false;
        for (int helper = 0; helper < claimCount(); helper++) {
          isAnswered |= isIn(set, helper) && attacks(helper, attacker);
        }
        if (!isAnswered) {
          return false;
        }
      }
    }
    return true;
  }

  int acceptedBits() {
    int accepted = 0;
    while (true) {
      int next = 0;
      for (int claim = 0; claim < claimCount(); claim++) {
        next += defends(accepted, claim) ? 1 << claim : 0;
      }
      if (next == accepted) {
        return accepted;
      }
      accepted = next;
    }
  }

  boolean isRejected(int claim) {
    at(claim);
    int accepted = acceptedBits();
    for (int other = 0; other < claimCount(); other++) {
      if (isIn(accepted, other) && attacks(other, claim)) {
        return true;
      }
    }
    return false;
  }

  int undecidedCount() {
    int number = 0;
    for (int claim = 0; claim < claimCount(); claim++) {
      number += isIn(acceptedBits(), claim) || isRejected(claim) ? 0 : 1;
    }
    return number;
  }

  boolean isPosition(int set) {
    argument(set >= 0 && set < 1 << claimCount());
    for (int claim = 0; claim < claimCount(); claim++) {
      if (isIn(set, claim)) {
        for (int other = 0; other < claimCount(); other++) {
          if (isIn(set, other) && attacks(claim, other)) {
            return false;
          }
        }
        if (!defends(set, claim)) {
          return false;
        }
      }
    }
    return true;
  }

  private List<Integer> allPositions() {
    List<Integer> found = new ArrayList<>();
    for (int set = 0; set < 1 << claimCount(); set++) {
      if (isPosition(set)) {
        found.add(set);
      }
    }
    return found;
  }

  int positions() {
    return allPositions().size();
  }

  private int weight(int set) {
    int sum = 0;
    for (int claim = 0; claim < claimCount(); claim++) {
      sum += isIn(set, claim) ? weightOf(claim) : 0;
    }
    return sum;
  }

  int heaviestBits() {
    // Turned round, so that the lowest claim counts most.
    Comparator<Integer> order = Comparator.<Integer>comparingInt(this::weight)
        .thenComparingInt(set -> Integer.reverse(set) >>> 1);
    return allPositions().stream().max(order).get();
  }

  int heaviestWeight() {
    return weight(heaviestBits());
  }

  private boolean reaches(int claim, int other) {
    TreeSet<Integer> seen = new TreeSet<>();
    Deque<Integer> open = new ArrayDeque<>();
    open.add(claim);
    while (!open.isEmpty()) {
      int next = open.remove();
      if (seen.add(next)) {
        open.addAll(at(next).victims);
      }
    }
    return seen.contains(other);
  }

  int circleSize(int claim) {
    at(claim);
    int size = 0;
    for (int other = 0; other < claimCount(); other++) {
      size += reaches(claim, other) && reaches(other, claim) ? 1 : 0;
    }
    return size;
  }

  int circles() {
    double parts = 0;
    for (int claim = 0; claim < claimCount(); claim++) {
      parts += 1.0 / circleSize(claim);
    }
    return (int) Math.round(parts);
  }

  int chains(int claim, int other, int length) {
    at(claim);
    at(other);
    argument(in(length, 0, 999));
    BigInteger[] ways = new BigInteger[claimCount()];
    Arrays.fill(ways, BigInteger.ZERO);
    ways[other] = BigInteger.ONE;
    for (int i = 0; i < length; i++) {
      BigInteger[] next = new BigInteger[claimCount()];
      for (int from = 0; from < claimCount(); from++) {
        next[from] = BigInteger.ZERO;
        for (int to : at(from).victims) {
          next[from] = next[from].add(ways[to]);
        }
      }
      ways = next;
    }
    return ways[claim].mod(BigInteger.valueOf(1000003)).intValue();
  }

  private static int place(int layer, int slot) {
    return layer * 5 + 1 + slot;
  }

  char setRack(int layer, char kind) {
    index(in(layer, 0, 3));
    argument("qoa".indexOf(kind) >= 0);
    state(depthOf(layer) == 0);
    change();
    char old = world.racks.charAt(layer * 5);
    world.racks.setCharAt(layer * 5, kind);
    return old;
  }

  private boolean canHold(int layer, char remark) {
    char kind = world.racks.charAt(layer * 5);
    return kind == 'a' || kind == remark;
  }

  int insert(int layer, int slot, char remark) {
    index(in(layer, 0, 3) && in(slot, 0, 2));
    argument("qo".indexOf(remark) >= 0);
    state(remarkAt(layer, slot) == '.');
    if (!canHold(layer, remark)) {
      throw new UnsupportedOperationException();
    }
    change();
    world.racks.setCharAt(place(layer, slot), remark);
    log('i');
    return depthOf(layer);
  }

  char withdraw(int layer, int slot) {
    char old = remarkAt(layer, slot);
    element(old != '.');
    change();
    world.racks.setCharAt(place(layer, slot), '.');
    log('w');
    return old;
  }

  char remarkAt(int layer, int slot) {
    index(in(layer, 0, 3) && in(slot, 0, 2));
    return world.racks.charAt(place(layer, slot));
  }

  int depthOf(int layer) {
    index(in(layer, 0, 3));
    int depth = 0;
    for (int slot = 0; slot < 3; slot++) {
      char remark = remarkAt(layer, slot);
      depth += remark == '.' ? 0 : remark == 'q' ? 2 : 3;
    }
    return depth;
  }

  float excite(int claim, int amount) {
    at(claim);
    argument(in(amount, 1, 1000));
    change();
    at(claim).flux = Math.min(at(claim).flux + amount, 99999f);
    log('e');
    return at(claim).flux;
  }

  private int shift() {
    world.shifts++;
    float[] fluxes = new float[claimCount()];
    for (int claim = 0; claim < claimCount(); claim++) {
      float flux = at(claim).flux * 0.5f;
      for (int other = 0; other < claimCount(); other++) {
        if (attacks(other, claim)) {
          flux += at(other).flux * 0.25f;
        }
      }
      flux *= 10 - depthOf(layerOf(claim));
      flux /= 10;
      fluxes[claim] = Math.min(flux, 99999f);
    }
    for (int claim = 0; claim < claimCount(); claim++) {
      at(claim).flux = fluxes[claim];
    }
    if (power() <= world.limit) {
      return 0;
    }
    for (int layer = 0; layer < 4; layer++) {
      for (int slot = 0; slot < 3; slot++) {
        if (remarkAt(layer, slot) == '.') {
          world.racks.setCharAt(place(layer, slot), canHold(layer, 'o') ? 'o' : 'q');
        }
      }
    }
    world.scrams++;
    log('s');
    return 1;
  }

  int pass(int shifts) {
    argument(in(shifts, 1, 20));
    change();
    int number = 0;
    for (int i = 0; i < shifts; i++) {
      number += shift();
    }
    return number;
  }

  int setLimit(int limit) {
    argument(in(limit, 1, 9999));
    change();
    int old = world.limit;
    world.limit = limit;
    return old;
  }

  float fluxOf(int claim) {
    return at(claim).flux;
  }

  int fluxBits(int claim) {
    return Float.floatToIntBits(fluxOf(claim));
  }

  float power() {
    float sum = 0f;
    for (Claim claim : world.claims) {
      sum += claim.flux;
    }
    return sum;
  }

  int powerBits() {
    return Float.floatToIntBits(power());
  }

  int shiftsUntilBelow(int level) {
    argument(in(level, 1, 9999));
    World real = world;
    world = real.copy();
    int shifts = 0;
    while (power() >= level && shifts <= 30) {
      shift();
      shifts++;
    }
    world = real;
    element(shifts <= 30);
    return shifts;
  }

  int shiftCount() {
    return world.shifts;
  }

  int scrams() {
    return world.scrams;
  }

  int claimAtRank(int rank) {
    element(in(rank, 0, claimCount() - 1));
    List<Integer> order = new ArrayList<>();
    for (int claim = 0; claim < claimCount(); claim++) {
      order.add(claim);
    }
    order.sort(Comparator.<Integer>comparingDouble(claim -> -fluxOf(claim))
        .thenComparing(claim -> -weightOf(claim)));
    return order.get(rank);
  }

  int logCount() {
    return world.log.size();
  }

  int logShift(int recency) {
    element(in(recency, 0, logCount() - 1));
    return Integer.parseInt(world.log.get(recency).substring(1));
  }

  char logKind(int recency) {
    element(in(recency, 0, logCount() - 1));
    return world.log.get(recency).charAt(0);
  }

  int append(char character) {
    argument(in(character, 32, 126));
    state(text.length() < 60);
    text += character;
    return text.length();
  }

  private static boolean canBegin(String text) {
    Matcher matcher = TEXT.matcher(text);
    return matcher.matches() || matcher.hitEnd();
  }

  int run() {
    String whole = text;
    text = "";
    if (!TEXT.matcher(whole).matches()) {
      int position = 0;
      while (position < whole.length() && canBegin(whole.substring(0, position + 1))) {
        position++;
      }
      error = position;
      throw new IllegalArgumentException();
    }
    String[] commands = whole.split(";");
    World old = world.copy();
    isInRun = true;
    for (int i = 0; i < commands.length; i++) {
      try {
        carryOut(commands[i]);
      } catch (RuntimeException e) {
        world = old;
        failed = i;
        isInRun = false;
        throw new IllegalStateException();
      }
    }
    isInRun = false;
    World done = world;
    world = old;
    change();
    world = done;
    return commands.length;
  }

  private void carryOut(String command) {
    String name = command.substring(0, command.indexOf(' '));
    String rest = command.substring(command.indexOf(' ') + 1);
    int first = rest.charAt(0) - '0';
    char last = rest.charAt(rest.length() - 1);
    switch (name) {
      case "claim" -> addClaim(Integer.parseInt(rest));
      case "attack" -> setAttack(first, last - '0', true);
      case "calm" -> setAttack(first, last - '0', false);
      case "layer" -> setLayer(first, last - '0');
      case "rack" -> setRack(first, last);
      case "insert" -> insert(first, rest.charAt(1) - '0', last);
      case "draw" -> withdraw(first, last - '0');
      case "excite" -> excite(first, Integer.parseInt(rest.substring(2)));
      case "limit" -> setLimit(Integer.parseInt(rest));
      case "pass" -> pass(Integer.parseInt(rest));
      default -> throw new AssertionError(name);
    }
  }

  int errorPosition() {
    element(error != null);
    return error;
  }

  int failedCommand() {
    element(failed != null);
    return failed;
  }

  int describeClaim(int claim) {
    at(claim);
    line = claim + (isIn(acceptedBits(), claim) ? "+" : isRejected(claim) ? "-" : "?");
    for (int victim : at(claim).victims) {
      line += victim;
    }
    return line.length();
  }

  int describeRacks() {
    line = world.racks.toString();
    return line.length();
  }

  char lineAt(int index) {
    index(in(index, 0, line.length() - 1));
    return line.charAt(index);
  }

  double meanWeight() {
    if (world.claims.isEmpty()) {
      throw new ArithmeticException();
    }
    return (double) weight((1 << claimCount()) - 1) / (double) claimCount();
  }

  long meanWeightBits() {
    return Double.doubleToLongBits(meanWeight());
  }

  boolean isConsistent() {
    return true;
  }

  int undo() {
    state(!history.isEmpty());
    world = history.removeLast();
    return history.size();
  }

  int save() {
    snapshot = world.copy();
    return claimCount();
  }

  int restore() {
    state(snapshot != null);
    world = snapshot.copy();
    history.clear();
    return claimCount();
  }
}
