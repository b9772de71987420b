import java.util.NoSuchElementException;

/** A reactor of opinions, as ../shared/DOC.md promises it. */
public final class OpinionReactor {
  private static final int MAX_CLAIMS = 10;
  private static final int MAX_WEIGHT = 99;
  private static final int LAYERS = 4;
  private static final int SLOTS = 3;
  private static final int MAX_AMOUNT = 1000;
  private static final int MAX_FLUX = 99999;
  private static final int MAX_PASS = 20;
  private static final int MAX_LIMIT = 9999;
  private static final int FIRST_LIMIT = 1000;
  private static final int MAX_AHEAD = 30;
  private static final int MAX_LOG = 16;
  private static final int MAX_UNDO = 8;
  private static final int MAX_TEXT = 60;
  private static final int MAX_VALUES = 3;
  private static final int MAX_DIGITS = 4;
  private static final int MAX_LINE = 19;
  private static final int MAX_LENGTH = 999;
  private static final int LENGTH_BITS = 10;
  private static final int MODULUS = 1000003;

  // The shortest command has 6 characters, so a text of 60 never begins more commands than this.
  private static final int MAX_COMMANDS = 10;

  private static final int NONE = -1;

  // A change that is refused answers one of these instead of its result, which is never negative.
  private static final int NO_INDEX = -1;
  private static final int BAD_ARGUMENT = -2;
  private static final int BAD_STATE = -3;
  private static final int UNSUPPORTED = -4;
  private static final int MISSING = -5;

  private State now = new State();
  // The state ahead of the change that is going on; it becomes the newest of the past if that succeeds.
  private State before = new State();
  private final State[] past = new State[MAX_UNDO];
  private int pastNext = 0;
  private int pastCount = 0;
  private final State saved = new State();
  private boolean isSaved = false;
  private final State trial = new State();
  private final CommandText text = new CommandText();
  private int lastError = NONE;
  private int lastFailed = NONE;
  private final char[] line = new char[MAX_LINE];
  private int lineLength = 0;
  private final Accepting accepting = new Accepting();
  private final Circles circling = new Circles();
  private final Chains chaining = new Chains();

  public OpinionReactor() {
    for (int i = 0; i < past.length; i++) {
      past[i] = new State();
    }
  }

  // ---- claims

  public int addClaim(int weight) throws IllegalArgumentException, IllegalStateException {
    before.copyFrom(now);
    return settled(now.claims.enter(weight));
  }

  public boolean setAttack(int claim, int other, boolean isAttack) throws IndexOutOfBoundsException {
    before.copyFrom(now);
    return settled(now.claims.direct(claim, other, isAttack)) == 1;
  }

  public int setLayer(int claim, int layer) throws IndexOutOfBoundsException {
    before.copyFrom(now);
    return settled(now.claims.move(claim, layer));
  }

  public int claimCount() {
    return now.claims.count;
  }

  public int weightOf(int claim) throws IndexOutOfBoundsException {
    needClaim(claim);
    return now.claims.weights[claim];
  }

  public int layerOf(int claim) throws IndexOutOfBoundsException {
    needClaim(claim);
    return now.claims.layers[claim];
  }

  public boolean attacks(int claim, int other) throws IndexOutOfBoundsException {
    needClaim(claim);
    needClaim(other);
    return contains(now.claims.targets[claim], other);
  }

  public int acceptedBits() {
    return Accepting.byRounds(now.claims);
  }

  public int acceptedBitsByLabels() {
    return accepting.byLabels(now.claims);
  }

  public boolean isRejected(int claim) throws IndexOutOfBoundsException {
    needClaim(claim);
    return contains(rejectedBits(), claim);
  }

  public int undecidedCount() {
    return Integer.bitCount(now.claims.all() & ~(acceptedBits() | rejectedBits()));
  }

  private int rejectedBits() {
    return now.claims.targetsOf(acceptedBits());
  }

  // ---- positions

  public int positions() {
    return Positions.byTrying(now.claims);
  }

  public int positionsByDeciding() {
    return Positions.byDeciding(now.claims);
  }

  public int heaviestWeight() {
    return now.claims.weightOfSet(heaviestBits());
  }

  public int heaviestBits() {
    return Positions.heaviest(now.claims);
  }

  public boolean isPosition(int claims) throws IllegalArgumentException {
    if (claims < 0 || claims > now.claims.all()) {
      throw new IllegalArgumentException("no such set of claims");
    }
    return Positions.holds(now.claims, claims);
  }

  // ---- circles and chains

  public int circles() {
    return Circles.bySearches(now.claims);
  }

  public int circlesByReach() {
    return circling.byReach(now.claims);
  }

  public int circleSize(int claim) throws IndexOutOfBoundsException {
    needClaim(claim);
    return Integer.bitCount(Circles.around(now.claims, claim));
  }

  public int chains(int claim, int other, int length)
      throws IndexOutOfBoundsException, IllegalArgumentException {
    needChain(claim, other, length);
    return chaining.bySquaring(now.claims, claim, other, length);
  }

  public int chainsBySteps(int claim, int other, int length)
      throws IndexOutOfBoundsException, IllegalArgumentException {
    needChain(claim, other, length);
    return chaining.byStepping(now.claims, claim, other, length);
  }

  private void needChain(int claim, int other, int length) {
    needClaim(claim);
    needClaim(other);
    if (length < 0 || length > MAX_LENGTH) {
      throw new IllegalArgumentException("the length is out of range");
    }
  }

  // ---- remarks

  public char setRack(int layer, char kind)
      throws IndexOutOfBoundsException, IllegalArgumentException, IllegalStateException {
    before.copyFrom(now);
    return (char) settled(now.racks.renew(layer, kind));
  }

  public int insert(int layer, int slot, char remark)
      throws IndexOutOfBoundsException, IllegalArgumentException, IllegalStateException,
          UnsupportedOperationException {
    before.copyFrom(now);
    return settled(now.put(layer, slot, remark));
  }

  public char withdraw(int layer, int slot) throws IndexOutOfBoundsException, NoSuchElementException {
    before.copyFrom(now);
    return (char) settled(now.take(layer, slot));
  }

  public char remarkAt(int layer, int slot) throws IndexOutOfBoundsException {
    if (!isLayer(layer) || !isSlot(slot)) {
      throw new IndexOutOfBoundsException("no such layer or slot");
    }
    return now.racks.remarks[layer * SLOTS + slot];
  }

  public int depthOf(int layer) throws IndexOutOfBoundsException {
    if (!isLayer(layer)) {
      throw new IndexOutOfBoundsException("no such layer");
    }
    return now.racks.depth(layer);
  }

  // ---- flux and power

  public float excite(int claim, int amount) throws IndexOutOfBoundsException, IllegalArgumentException {
    before.copyFrom(now);
    int heated = settled(now.heat(claim, amount));
    return now.claims.fluxes[heated];
  }

  public int pass(int shifts) throws IllegalArgumentException {
    before.copyFrom(now);
    return settled(now.advance(shifts));
  }

  public int setLimit(int limit) throws IllegalArgumentException {
    before.copyFrom(now);
    return settled(now.bound(limit));
  }

  public float fluxOf(int claim) throws IndexOutOfBoundsException {
    needClaim(claim);
    return now.claims.fluxes[claim];
  }

  public int fluxBits(int claim) throws IndexOutOfBoundsException {
    return Bits.ofFloat(fluxOf(claim));
  }

  public float power() {
    return now.claims.sumOfFluxes();
  }

  public int powerBits() {
    return Bits.ofFloat(power());
  }

  public int shiftsUntilBelow(int level) throws IllegalArgumentException, NoSuchElementException {
    if (level < 1 || level > MAX_LIMIT) {
      throw new IllegalArgumentException("the level is out of range");
    }
    trial.copyFrom(now);
    for (int shifts = 0; shifts <= MAX_AHEAD; shifts++) {
      if (trial.claims.sumOfFluxes() < (float) level) {
        return shifts;
      }
      trial.shift();
    }
    throw new NoSuchElementException("the power stays too high for too long");
  }

  public int shiftCount() {
    return now.shifts;
  }

  public int scrams() {
    return now.scramCount;
  }

  public int claimAtRank(int rank) throws NoSuchElementException {
    for (int claim = 0; claim < now.claims.count; claim++) {
      if (now.claims.countAhead(claim) == rank) {
        return claim;
      }
    }
    throw new NoSuchElementException("no such rank");
  }

  public int logCount() {
    return now.log.count;
  }

  public int logShift(int recency) throws NoSuchElementException {
    needEntry(recency);
    return now.log.shifts[now.log.place(recency)];
  }

  public char logKind(int recency) throws NoSuchElementException {
    needEntry(recency);
    return now.log.kinds[now.log.place(recency)];
  }

  private void needEntry(int recency) {
    if (recency < 0 || recency >= now.log.count) {
      throw new NoSuchElementException("no such entry");
    }
  }

  // ---- commands

  public int append(char character) throws IllegalArgumentException, IllegalStateException {
    if (character < ' ' || character > '~') {
      throw new IllegalArgumentException("no such character in a command text");
    }
    if (text.length >= MAX_TEXT) {
      throw new IllegalStateException("the command text is full");
    }
    text.signs[text.length] = character;
    text.length++;
    return text.length;
  }

  public int run() throws IllegalArgumentException, IllegalStateException {
    int error = text.parse();
    text.length = 0;
    if (error != NONE) {
      lastError = error;
      throw new IllegalArgumentException("not a command text");
    }
    before.copyFrom(now);
    for (int i = 0; i < text.commands; i++) {
      if (carryOut(text.forms[i], text.values[i]) < 0) {
        now.copyFrom(before);
        lastFailed = i;
        throw new IllegalStateException("a command fails");
      }
    }
    return settled(text.commands);
  }

  private int carryOut(Form form, int[] values) {
    int first = values[0];
    int second = values[1];
    int third = values[2];
    switch (form) {
      case CLAIM:
        return now.claims.enter(first);
      case ATTACK:
        return now.claims.direct(first, second, true);
      case CALM:
        return now.claims.direct(first, second, false);
      case LAYER:
        return now.claims.move(first, second);
      case RACK:
        return now.racks.renew(first, (char) second);
      case INSERT:
        return now.put(first, second, (char) third);
      case DRAW:
        return now.take(first, second);
      case EXCITE:
        return now.heat(first, second);
      case LIMIT:
        return now.bound(first);
      default:
        return now.advance(first);
    }
  }

  public int errorPosition() throws NoSuchElementException {
    if (lastError == NONE) {
      throw new NoSuchElementException("no error position was set");
    }
    return lastError;
  }

  public int failedCommand() throws NoSuchElementException {
    if (lastFailed == NONE) {
      throw new NoSuchElementException("no command has failed");
    }
    return lastFailed;
  }

  // ---- line, statistics, undo, snapshot

  public int describeClaim(int claim) throws IndexOutOfBoundsException {
    needClaim(claim);
    lineLength = 0;
    write(digit(claim));
    write(statusSign(claim));
    for (int other = 0; other < now.claims.count; other++) {
      if (contains(now.claims.targets[claim], other)) {
        write(digit(other));
      }
    }
    return lineLength;
  }

  private char statusSign(int claim) {
    if (contains(acceptedBits(), claim)) {
      return '+';
    }
    return contains(rejectedBits(), claim) ? '-' : '?';
  }

  public int describeRacks() {
    lineLength = 0;
    for (int layer = 0; layer < LAYERS; layer++) {
      if (layer > 0) {
        write(' ');
      }
      write(now.racks.kinds[layer]);
      for (int slot = 0; slot < SLOTS; slot++) {
        write(now.racks.remarks[layer * SLOTS + slot]);
      }
    }
    return lineLength;
  }

  private void write(char sign) {
    if (lineLength < line.length) {
      line[lineLength] = sign;
      lineLength++;
    }
  }

  public char lineAt(int index) throws IndexOutOfBoundsException {
    if (index < 0 || index >= lineLength) {
      throw new IndexOutOfBoundsException("no such index in the line");
    }
    return line[index];
  }

  public double meanWeight() throws ArithmeticException {
    Claims claims = now.claims;
    if (claims.count == 0) {
      throw new ArithmeticException("no claims");
    }
    return (double) claims.weightOfSet(claims.all()) / (double) claims.count;
  }

  public long meanWeightBits() throws ArithmeticException {
    return Bits.ofDouble(meanWeight());
  }

  public boolean isConsistent() {
    return acceptedBits() == acceptedBitsByLabels()
        && positions() == positionsByDeciding()
        && circles() == circlesByReach()
        && areChainsEqual(1)
        && areChainsEqual(5)
        && areChainsEqual(30)
        && Positions.holds(now.claims, acceptedBits())
        && power() >= 0f;
  }

  private boolean areChainsEqual(int length) {
    int last = now.claims.count - 1;
    return last < 0 || chains(0, last, length) == chainsBySteps(0, last, length);
  }

  public int undo() throws IllegalStateException {
    if (pastCount == 0) {
      throw new IllegalStateException("no change to undo");
    }
    pastNext = (pastNext + MAX_UNDO - 1) % MAX_UNDO;
    pastCount--;
    State undone = now;
    now = past[pastNext];
    past[pastNext] = undone;
    return pastCount;
  }

  public int save() {
    saved.copyFrom(now);
    isSaved = true;
    return now.claims.count;
  }

  public int restore() throws IllegalStateException {
    if (!isSaved) {
      throw new IllegalStateException("no snapshot");
    }
    now.copyFrom(saved);
    pastCount = 0;
    return now.claims.count;
  }

  // ---- shared by several of the above

  // Ends a change: throws what refused it, or keeps the state ahead of it for undo.
  private int settled(int result) {
    if (result < 0) {
      refuse(result);
    }
    State oldest = past[pastNext];
    past[pastNext] = before;
    before = oldest;
    pastNext = (pastNext + 1) % MAX_UNDO;
    pastCount = Math.min(pastCount + 1, MAX_UNDO);
    return result;
  }

  private static void refuse(int refusal) {
    switch (refusal) {
      case NO_INDEX:
        throw new IndexOutOfBoundsException("no such claim, layer or slot");
      case BAD_ARGUMENT:
        throw new IllegalArgumentException("a parameter is out of range");
      case BAD_STATE:
        throw new IllegalStateException("not in this state");
      case UNSUPPORTED:
        throw new UnsupportedOperationException("the rack cannot hold such a remark");
      default:
        throw new NoSuchElementException("the slot holds no remark");
    }
  }

  private void needClaim(int claim) {
    if (!now.claims.has(claim)) {
      throw new IndexOutOfBoundsException("no such claim");
    }
  }

  private static boolean isLayer(int layer) {
    return layer >= 0 && layer < LAYERS;
  }

  private static boolean isSlot(int slot) {
    return slot >= 0 && slot < SLOTS;
  }

  private static int bit(int claim) {
    return 1 << claim;
  }

  private static boolean contains(int set, int claim) {
    return (set >> claim & 1) != 0;
  }

  private static char digit(int number) {
    return (char) ('0' + number);
  }

  private static float capped(float flux) {
    return flux > (float) MAX_FLUX ? (float) MAX_FLUX : flux;
  }

  /** The claims, with their attacks kept as sets from both ends, so that whole sets can be followed at once. */
  static final class Claims {
    int count = 0;
    final int[] weights = new int[MAX_CLAIMS];
    final int[] layers = new int[MAX_CLAIMS];
    final int[] targets = new int[MAX_CLAIMS];
    final int[] attackers = new int[MAX_CLAIMS];
    final float[] fluxes = new float[MAX_CLAIMS];

    void copyFrom(Claims other) {
      count = other.count;
      System.arraycopy(other.weights, 0, weights, 0, MAX_CLAIMS);
      System.arraycopy(other.layers, 0, layers, 0, MAX_CLAIMS);
      System.arraycopy(other.targets, 0, targets, 0, MAX_CLAIMS);
      System.arraycopy(other.attackers, 0, attackers, 0, MAX_CLAIMS);
      System.arraycopy(other.fluxes, 0, fluxes, 0, MAX_CLAIMS);
    }

    boolean has(int claim) {
      return claim >= 0 && claim < count;
    }

    int all() {
      return bit(count) - 1;
    }

    int enter(int weight) {
      if (weight < 1 || weight > MAX_WEIGHT) {
        return BAD_ARGUMENT;
      }
      if (count >= MAX_CLAIMS) {
        return BAD_STATE;
      }
      weights[count] = weight;
      count++;
      return count - 1;
    }

    int direct(int claim, int other, boolean isAttack) {
      if (!has(claim) || !has(other)) {
        return NO_INDEX;
      }
      boolean wasAttack = contains(targets[claim], other);
      if (isAttack) {
        targets[claim] |= bit(other);
        attackers[other] |= bit(claim);
      } else {
        targets[claim] &= ~bit(other);
        attackers[other] &= ~bit(claim);
      }
      return wasAttack ? 1 : 0;
    }

    int move(int claim, int layer) {
      if (!has(claim) || !isLayer(layer)) {
        return NO_INDEX;
      }
      int old = layers[claim];
      layers[claim] = layer;
      return old;
    }

    int targetsOf(int set) {
      int found = 0;
      for (int claim = 0; claim < count; claim++) {
        if (contains(set, claim)) {
          found |= targets[claim];
        }
      }
      return found;
    }

    int attackersOf(int set) {
      int found = 0;
      for (int claim = 0; claim < count; claim++) {
        if (contains(set, claim)) {
          found |= attackers[claim];
        }
      }
      return found;
    }

    int weightOfSet(int set) {
      int sum = 0;
      for (int claim = 0; claim < count; claim++) {
        if (contains(set, claim)) {
          sum += weights[claim];
        }
      }
      return sum;
    }

    float sumOfFluxes() {
      float sum = 0f;
      for (int claim = 0; claim < count; claim++) {
        sum += fluxes[claim];
      }
      return sum;
    }

    int countAhead(int claim) {
      int ahead = 0;
      for (int other = 0; other < count; other++) {
        if (isAhead(other, claim)) {
          ahead++;
        }
      }
      return ahead;
    }

    private boolean isAhead(int claim, int other) {
      if (fluxes[claim] != fluxes[other]) {
        return fluxes[claim] > fluxes[other];
      }
      if (weights[claim] != weights[other]) {
        return weights[claim] > weights[other];
      }
      return claim < other;
    }
  }

  /** The racks of all layers. */
  static final class Racks {
    final char[] kinds = new char[LAYERS];
    final char[] remarks = new char[LAYERS * SLOTS];

    Racks() {
      for (int i = 0; i < kinds.length; i++) {
        kinds[i] = 'a';
      }
      for (int i = 0; i < remarks.length; i++) {
        remarks[i] = '.';
      }
    }

    void copyFrom(Racks other) {
      for (int i = 0; i < kinds.length; i++) {
        kinds[i] = other.kinds[i];
      }
      for (int i = 0; i < remarks.length; i++) {
        remarks[i] = other.remarks[i];
      }
    }

    int renew(int layer, char kind) {
      if (!isLayer(layer)) {
        return NO_INDEX;
      }
      if (kind != 'q' && kind != 'o' && kind != 'a') {
        return BAD_ARGUMENT;
      }
      if (depth(layer) > 0) {
        return BAD_STATE;
      }
      char old = kinds[layer];
      kinds[layer] = kind;
      return old;
    }

    int put(int layer, int slot, char remark) {
      if (!isLayer(layer) || !isSlot(slot)) {
        return NO_INDEX;
      }
      if (remark != 'q' && remark != 'o') {
        return BAD_ARGUMENT;
      }
      if (remarks[layer * SLOTS + slot] != '.') {
        return BAD_STATE;
      }
      if (!canHold(layer, remark)) {
        return UNSUPPORTED;
      }
      remarks[layer * SLOTS + slot] = remark;
      return depth(layer);
    }

    int take(int layer, int slot) {
      if (!isLayer(layer) || !isSlot(slot)) {
        return NO_INDEX;
      }
      char remark = remarks[layer * SLOTS + slot];
      if (remark == '.') {
        return MISSING;
      }
      remarks[layer * SLOTS + slot] = '.';
      return remark;
    }

    void fill() {
      for (int i = 0; i < remarks.length; i++) {
        if (remarks[i] == '.') {
          remarks[i] = canHold(i / SLOTS, 'o') ? 'o' : 'q';
        }
      }
    }

    private boolean canHold(int layer, char remark) {
      return kinds[layer] == 'a' || kinds[layer] == remark;
    }

    int depth(int layer) {
      int sum = 0;
      for (int slot = 0; slot < SLOTS; slot++) {
        sum += strength(remarks[layer * SLOTS + slot]);
      }
      return sum;
    }

    private static int strength(char remark) {
      if (remark == 'o') {
        return 3;
      }
      return remark == 'q' ? 2 : 0;
    }
  }

  /** The latest entries of the log, in a ring. */
  static final class Log {
    final int[] shifts = new int[MAX_LOG];
    final char[] kinds = new char[MAX_LOG];
    int count = 0;
    private int next = 0;

    void copyFrom(Log other) {
      for (int i = 0; i < MAX_LOG; i++) {
        shifts[i] = other.shifts[i];
        kinds[i] = other.kinds[i];
      }
      count = other.count;
      next = other.next;
    }

    void note(int shift, char kind) {
      shifts[next] = shift;
      kinds[next] = kind;
      next = (next + 1) % MAX_LOG;
      count = Math.min(count + 1, MAX_LOG);
    }

    int place(int recency) {
      return Math.floorMod(next - 1 - recency, MAX_LOG);
    }
  }

  /** Everything that changes can change. */
  static final class State {
    final Claims claims = new Claims();
    final Racks racks = new Racks();
    final Log log = new Log();
    int limit = FIRST_LIMIT;
    int shifts = 0;
    int scramCount = 0;
    // Only a row to work in: what it holds is of no account outside shift().
    private final float[] fresh = new float[MAX_CLAIMS];

    void copyFrom(State other) {
      claims.copyFrom(other.claims);
      racks.copyFrom(other.racks);
      log.copyFrom(other.log);
      limit = other.limit;
      shifts = other.shifts;
      scramCount = other.scramCount;
    }

    int put(int layer, int slot, char remark) {
      int depth = racks.put(layer, slot, remark);
      if (depth >= 0) {
        log.note(shifts, 'i');
      }
      return depth;
    }

    int take(int layer, int slot) {
      int remark = racks.take(layer, slot);
      if (remark >= 0) {
        log.note(shifts, 'w');
      }
      return remark;
    }

    int heat(int claim, int amount) {
      if (!claims.has(claim)) {
        return NO_INDEX;
      }
      if (amount < 1 || amount > MAX_AMOUNT) {
        return BAD_ARGUMENT;
      }
      claims.fluxes[claim] = capped(claims.fluxes[claim] + (float) amount);
      log.note(shifts, 'e');
      return claim;
    }

    int bound(int newLimit) {
      if (newLimit < 1 || newLimit > MAX_LIMIT) {
        return BAD_ARGUMENT;
      }
      int old = limit;
      limit = newLimit;
      return old;
    }

    int advance(int number) {
      if (number < 1 || number > MAX_PASS) {
        return BAD_ARGUMENT;
      }
      int old = scramCount;
      for (int i = 0; i < number; i++) {
        shift();
      }
      return scramCount - old;
    }

    void shift() {
      shifts++;
      for (int claim = 0; claim < claims.count; claim++) {
        fresh[claim] = nextFlux(claim);
      }
      System.arraycopy(fresh, 0, claims.fluxes, 0, claims.count);
      if (claims.sumOfFluxes() > (float) limit) {
        racks.fill();
        scramCount++;
        log.note(shifts, 's');
      }
    }

    private float nextFlux(int claim) {
      float sum = claims.fluxes[claim] * 0.5f;
      for (int other = 0; other < claims.count; other++) {
        if (contains(claims.attackers[claim], other)) {
          sum += claims.fluxes[other] * 0.25f;
        }
      }
      float left = (float) (10 - racks.depth(claims.layers[claim]));
      return capped(sum * left / 10f);
    }
  }

  /** Finds the accepted claims, in two ways. */
  static final class Accepting {
    private final int[] left = new int[MAX_CLAIMS];

    static int byRounds(Claims claims) {
      int accepted = 0;
      for (int round = 0; round <= claims.count; round++) {
        int wider = accepted | defended(claims, accepted);
        if (wider == accepted) {
          break;
        }
        accepted = wider;
      }
      return accepted;
    }

    private static int defended(Claims claims, int set) {
      int attacked = claims.targetsOf(set);
      int found = 0;
      for (int claim = 0; claim < claims.count; claim++) {
        if ((claims.attackers[claim] & ~attacked) == 0) {
          found |= bit(claim);
        }
      }
      return found;
    }

    int byLabels(Claims claims) {
      for (int claim = 0; claim < claims.count; claim++) {
        left[claim] = Integer.bitCount(claims.attackers[claim]);
      }
      int accepted = 0;
      int rejected = 0;
      for (int round = 0; round < claims.count; round++) {
        int claim = nextFree(claims, accepted);
        if (claim == NONE) {
          break;
        }
        accepted |= bit(claim);
        int fallen = claims.targets[claim] & ~rejected;
        rejected |= fallen;
        release(claims, fallen);
      }
      return accepted;
    }

    private int nextFree(Claims claims, int accepted) {
      for (int claim = 0; claim < claims.count; claim++) {
        if (left[claim] == 0 && !contains(accepted, claim)) {
          return claim;
        }
      }
      return NONE;
    }

    private void release(Claims claims, int fallen) {
      for (int claim = 0; claim < claims.count; claim++) {
        left[claim] -= Integer.bitCount(claims.attackers[claim] & fallen);
      }
    }
  }

  /** Finds positions. */
  static final class Positions {
    static boolean holds(Claims claims, int set) {
      int attacked = claims.targetsOf(set);
      return (attacked & set) == 0 && (claims.attackersOf(set) & ~attacked) == 0;
    }

    static int byTrying(Claims claims) {
      int found = 0;
      for (int set = 0; set <= claims.all(); set++) {
        if (holds(claims, set)) {
          found++;
        }
      }
      return found;
    }

    static int byDeciding(Claims claims) {
      return decide(claims, 0, 0);
    }

    // The claims below the given one are decided: those in the set are in, the others stay out.
    private static int decide(Claims claims, int claim, int set) {
      if (claim >= claims.count) {
        return (claims.attackersOf(set) & ~claims.targetsOf(set)) == 0 ? 1 : 0;
      }
      int found = decide(claims, claim + 1, set);
      int wider = set | bit(claim);
      if (((claims.targets[claim] | claims.attackers[claim]) & wider) == 0) {
        found += decide(claims, claim + 1, wider);
      }
      return found;
    }

    static int heaviest(Claims claims) {
      int best = 0;
      for (int set = 1; set <= claims.all(); set++) {
        if (holds(claims, set) && isBetter(claims, set, best)) {
          best = set;
        }
      }
      return best;
    }

    private static boolean isBetter(Claims claims, int set, int other) {
      int weight = claims.weightOfSet(set);
      int otherWeight = claims.weightOfSet(other);
      if (weight != otherWeight) {
        return weight > otherWeight;
      }
      int differing = set ^ other;
      int lowest = differing & -differing;
      return (set & lowest) != 0;
    }
  }

  /** Finds circles, in two ways. */
  static final class Circles {
    private final int[] reached = new int[MAX_CLAIMS];

    static int bySearches(Claims claims) {
      int found = 0;
      int seen = 0;
      for (int claim = 0; claim < claims.count; claim++) {
        if (!contains(seen, claim)) {
          found++;
          seen |= around(claims, claim);
        }
      }
      return found;
    }

    static int around(Claims claims, int claim) {
      return search(claims, claim, true) & search(claims, claim, false);
    }

    private static int search(Claims claims, int start, boolean isForward) {
      int found = bit(start);
      int fresh = found;
      for (int round = 0; round < claims.count; round++) {
        int next = isForward ? claims.targetsOf(fresh) : claims.attackersOf(fresh);
        fresh = next & ~found;
        found |= fresh;
      }
      return found;
    }

    int byReach(Claims claims) {
      fillReached(claims);
      int found = 0;
      for (int claim = 0; claim < claims.count; claim++) {
        if (isLowest(claim)) {
          found++;
        }
      }
      return found;
    }

    private void fillReached(Claims claims) {
      for (int claim = 0; claim < claims.count; claim++) {
        reached[claim] = claims.targets[claim] | bit(claim);
      }
      for (int middle = 0; middle < claims.count; middle++) {
        for (int claim = 0; claim < claims.count; claim++) {
          if (contains(reached[claim], middle)) {
            reached[claim] |= reached[middle];
          }
        }
      }
    }

    private boolean isLowest(int claim) {
      for (int other = 0; other < claim; other++) {
        if (contains(reached[claim], other) && contains(reached[other], claim)) {
          return false;
        }
      }
      return true;
    }
  }

  /** Counts chains of attacks, in two ways. */
  static final class Chains {
    private long[][] matrix = new long[MAX_CLAIMS][MAX_CLAIMS];
    private long[][] square = new long[MAX_CLAIMS][MAX_CLAIMS];
    private long[] row = new long[MAX_CLAIMS];
    private long[] next = new long[MAX_CLAIMS];

    int bySquaring(Claims claims, int first, int last, int length) {
      fillMatrix(claims);
      startRow(claims, first);
      for (int place = 0; place < LENGTH_BITS; place++) {
        if (contains(length, place)) {
          multiplyRow(claims.count);
        }
        squareMatrix(claims.count);
      }
      return (int) row[last];
    }

    private void startRow(Claims claims, int first) {
      for (int claim = 0; claim < claims.count; claim++) {
        row[claim] = claim == first ? 1L : 0L;
      }
    }

    private void fillMatrix(Claims claims) {
      for (int claim = 0; claim < claims.count; claim++) {
        for (int other = 0; other < claims.count; other++) {
          matrix[claim][other] = contains(claims.targets[claim], other) ? 1L : 0L;
        }
      }
    }

    private void multiplyRow(int size) {
      multiply(row, next, size);
      swapRows();
    }

    private void squareMatrix(int size) {
      for (int claim = 0; claim < size; claim++) {
        multiply(matrix[claim], square[claim], size);
      }
      long[][] old = matrix;
      matrix = square;
      square = old;
    }

    // Puts the product of a row and the matrix into another row.
    private void multiply(long[] from, long[] into, int size) {
      for (int other = 0; other < size; other++) {
        long sum = 0L;
        for (int claim = 0; claim < size; claim++) {
          sum += from[claim] * matrix[claim][other];
        }
        into[other] = sum % MODULUS;
      }
    }

    private void swapRows() {
      long[] old = row;
      row = next;
      next = old;
    }

    int byStepping(Claims claims, int first, int last, int length) {
      startRow(claims, first);
      for (int step = 0; step < length; step++) {
        for (int claim = 0; claim < claims.count; claim++) {
          next[claim] = sumOf(claims.attackers[claim], claims.count);
        }
        swapRows();
      }
      return (int) row[last];
    }

    private long sumOf(int set, int size) {
      long sum = 0L;
      for (int claim = 0; claim < size; claim++) {
        if (contains(set, claim)) {
          sum += row[claim];
        }
      }
      return sum % MODULUS;
    }
  }

  /** The forms of commands: # is a number, 0 a digit, K a kind of rack, R a remark, all else itself. */
  enum Form {
    CLAIM("claim #"),
    ATTACK("attack 0>0"),
    CALM("calm 0>0"),
    LAYER("layer 0=0"),
    RACK("rack 0K"),
    INSERT("insert 00R"),
    DRAW("draw 00"),
    EXCITE("excite 0+#"),
    LIMIT("limit #"),
    PASS("pass #");

    private static final Form[] ALL = values();
    final String pattern;

    Form(String pattern) {
      this.pattern = pattern;
    }
  }

  /** The command text, and the commands that were read from it last. */
  static final class CommandText {
    final char[] signs = new char[MAX_TEXT];
    int length = 0;
    final Form[] forms = new Form[MAX_COMMANDS];
    final int[][] values = new int[MAX_COMMANDS][MAX_VALUES];
    int commands = 0;
    private int valueCount = 0;
    // The index of the first character that the latest reading did not take.
    private int stop = 0;

    // Answers the error position, or NONE if all is well. Meanwhile the commands are those ahead of the one read.
    int parse() {
      int start = 0;
      for (int i = 0; i < MAX_COMMANDS; i++) {
        commands = i;
        Form form = readForm(start);
        if (form == null) {
          return stop;
        }
        forms[i] = form;
        if (stop >= length) {
          commands = i + 1;
          return NONE;
        }
        if (signs[stop] != ';') {
          return stop;
        }
        start = stop + 1;
      }
      return start;
    }

    private Form readForm(int start) {
      int furthest = start;
      for (Form form : Form.ALL) {
        if (takesForm(form, start)) {
          return form;
        }
        furthest = Math.max(furthest, stop);
      }
      stop = furthest;
      return null;
    }

    private boolean takesForm(Form form, int start) {
      stop = start;
      valueCount = 0;
      for (int i = 0; i < form.pattern.length(); i++) {
        if (!takesPart(form.pattern.charAt(i))) {
          return false;
        }
      }
      return true;
    }

    private boolean takesPart(char part) {
      switch (part) {
        case '#':
          return takesNumber();
        case '0':
          return takesDigit();
        case 'K':
          return takesLetter("qoa");
        case 'R':
          return takesLetter("qo");
        default:
          return takesSign(part);
      }
    }

    private boolean takesSign(char sign) {
      if (stop >= length || signs[stop] != sign) {
        return false;
      }
      stop++;
      return true;
    }

    private boolean takesLetter(String letters) {
      if (stop >= length || letters.indexOf(signs[stop]) < 0) {
        return false;
      }
      keep(signs[stop]);
      stop++;
      return true;
    }

    private boolean takesDigit() {
      if (!isDigit()) {
        return false;
      }
      keep(signs[stop] - '0');
      stop++;
      return true;
    }

    private boolean takesNumber() {
      if (!isDigit()) {
        return false;
      }
      int number = 0;
      for (int i = 0; i < MAX_DIGITS && isDigit(); i++) {
        number = number * 10 + (signs[stop] - '0');
        stop++;
      }
      keep(number);
      return true;
    }

    private boolean isDigit() {
      return stop < length && signs[stop] >= '0' && signs[stop] <= '9';
    }

    private void keep(int value) {
      if (commands < MAX_COMMANDS && valueCount < MAX_VALUES) {
        values[commands][valueCount] = value;
        valueCount++;
      }
    }
  }

  /** The bits of numbers that are finite and not negative, made without the library's help. */
  static final class Bits {
    // Above the 149 halvings of the least float.
    private static final int MAX_STEPS = 200;

    static int ofFloat(float number) {
      // Below this exponent floats have no hidden bit: adding the units up tells them right all the same.
      int exponent = Math.max(exponentOf((double) number), -126);
      int units = (int) ((double) number * powerOfTwo(23 - exponent));
      return ((exponent + 126) << 23) + units;
    }

    // For numbers from 1 on alone: a mean weight is never less.
    static long ofDouble(double number) {
      int exponent = exponentOf(number);
      long units = (long) (number * powerOfTwo(52 - exponent));
      return ((long) (exponent + 1022) << 52) + units;
    }

    private static int exponentOf(double number) {
      double scaled = number;
      int exponent = 0;
      for (int i = 0; i < MAX_STEPS && scaled >= 2.0; i++) {
        scaled *= 0.5;
        exponent++;
      }
      for (int i = 0; i < MAX_STEPS && scaled < 1.0; i++) {
        scaled *= 2.0;
        exponent--;
      }
      return exponent;
    }

    private static double powerOfTwo(int exponent) {
      double result = 1.0;
      for (int i = 0; i < exponent; i++) {
        result *= 2.0;
      }
      return result;
    }
  }
}
