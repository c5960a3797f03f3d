/**
 * A simulator of an irrigation district: a tree of ditches that leads water from a river to users,
 * who take it by the age of their rights, in turns, or in proportion.
 *
 * Every object that a call needs is made once, in the constructor, so that calls make none.
 */
public final class IrrigationDistrict {
  public static final int BAD_INDEX = -101;
  public static final int BAD_VALUE = -102;
  public static final int NOT_POSSIBLE = -103;
  public static final int FULL = -104;
  public static final int NONE = -105;
  public static final int BY_AGE = 0, BY_TURNS = 1, IN_PROPORTION = 2;
  public static final int UNFOUNDED = 0, FUTILE = 1, UPHELD = 2;

  private static final int MAX_DITCHES = 10;
  private static final int MAX_USERS = 12;
  private static final int MAX_GATE = 200;
  private static final int MAX_LOSS = 50;
  private static final int FIRST_YEAR = 1800;
  private static final int LAST_YEAR = 2099;
  private static final int MAX_RIGHT = 60;
  private static final int MAX_NEED = 60;
  private static final int MAX_CAPACITY = 500;
  private static final int MAX_LEAK = 20;
  private static final int MAX_TURN = 24;
  private static final int MAX_SUPPLY = 200;
  private static final int DAY = 24;
  private static final int MAX_HOURS = 48;
  private static final int MAX_TEXT = 100;
  private static final int SLOTS = 2;

  private static final int FLOWED = 0;
  private static final int STAYED = 1;
  private static final int LOST = 2;
  private static final int GOT = 3;
  private static final int USED = 4;
  private static final int LEAKED = 5;
  private static final int MISSED = 6;
  private static final int ACCOUNTS = 7;

  private final State now = new State();
  /** A copy of the present that questions of the form "what if" may change. */
  private final State trial = new State();
  private final State[] slots = {new State(), new State()};
  private final boolean[] saved = new boolean[SLOTS];
  private final Flow flow = new Flow();
  private final Text text = new Text();

  public IrrigationDistrict() {
  }

  // ---- ditches and users

  public int addDitch(int parent, int gate, int loss) {
    if (!now.hasDitch(parent)) return BAD_INDEX;
    if (!areGateAndLoss(gate, loss)) return BAD_VALUE;
    if (!now.hasRoomForDitch()) return FULL;
    now.putDitch(parent, gate, loss);
    return now.ditchCount - 1;
  }

  public int setDitch(int ditch, int gate, int loss) {
    if (!now.hasDitch(ditch)) return BAD_INDEX;
    if (!areGateAndLoss(gate, loss)) return BAD_VALUE;
    Ditch changed = now.ditch[ditch];
    int previous = changed.gate;
    changed.gate = gate;
    changed.loss = loss;
    return previous;
  }

  public int addUser(int ditch, int year, int right) {
    if (!now.hasDitch(ditch)) return BAD_INDEX;
    if (!isWithin(year, FIRST_YEAR, LAST_YEAR) || !isWithin(right, 0, MAX_RIGHT)) return BAD_VALUE;
    if (!now.hasRoomForUser()) return FULL;
    now.putUser(ditch, year, right);
    return now.userCount - 1;
  }

  public int setField(int user, int need, int from, int to) {
    if (!now.hasUser(user)) return BAD_INDEX;
    if (!isWithin(need, 0, MAX_NEED) || !areHours(from, to)) return BAD_VALUE;
    User changed = now.user[user];
    int previous = changed.need;
    changed.need = need;
    changed.from = from;
    changed.to = to;
    return previous;
  }

  public int setPond(int user, int capacity, int leak) {
    if (!now.hasUser(user)) return BAD_INDEX;
    if (!isWithin(capacity, 0, MAX_CAPACITY) || !isWithin(leak, 0, MAX_LEAK)) return BAD_VALUE;
    User changed = now.user[user];
    changed.capacity = capacity;
    changed.leak = leak;
    changed.content = Math.min(changed.content, capacity);
    return changed.content;
  }

  public int setTurn(int user, int hours) {
    if (!now.hasUser(user)) return BAD_INDEX;
    if (!isWithin(hours, 0, MAX_TURN)) return BAD_VALUE;
    User changed = now.user[user];
    int previous = changed.turnHours;
    changed.turnHours = hours;
    return previous;
  }

  public int setSupply(int from, int to, int units) {
    if (!areHours(from, to) || !isWithin(units, 0, MAX_SUPPLY)) return BAD_VALUE;
    int previous = now.supply[from];
    now.putSupply(from, to, units);
    return previous;
  }

  public int setRule(int rule) {
    if (!isWithin(rule, BY_AGE, IN_PROPORTION)) return BAD_VALUE;
    int previous = now.rule;
    now.rule = rule;
    return previous;
  }

  public int setFutile(int percent) {
    if (!isWithin(percent, 0, 100)) return BAD_VALUE;
    int previous = now.futilePercent;
    now.futilePercent = percent;
    return previous;
  }

  public int ditches() {
    return now.ditchCount;
  }

  public int users() {
    return now.userCount;
  }

  public int userByAge(int rank) {
    return now.hasUser(rank) ? now.byAge[rank] : BAD_INDEX;
  }

  // ---- the present hour

  public int time() {
    return now.hoursPassed;
  }

  public int asks(int user) {
    if (!now.hasUser(user)) return BAD_INDEX;
    return now.unitsAsked(user, now.userInTurn());
  }

  public int gets(int user) {
    if (!now.hasUser(user)) return BAD_INDEX;
    flow.distribute(now);
    return flow.got[user];
  }

  public int inflow(int ditch) {
    if (!now.hasDitch(ditch)) return BAD_INDEX;
    flow.distribute(now);
    return flow.into[ditch];
  }

  public int loses(int ditch) {
    if (!now.hasDitch(ditch)) return BAD_INDEX;
    flow.distribute(now);
    return flow.lostIn(ditch);
  }

  public int turn() {
    return now.userInTurn();
  }

  public int limit(int user) {
    if (!now.hasUser(user)) return BAD_INDEX;
    flow.distribute(now);
    if (flow.isContent(user)) return NOT_POSSIBLE;
    return flow.ditchAgainstOneMore(now, user);
  }

  public int leastSupply(int user) {
    if (!now.hasUser(user)) return BAD_INDEX;
    trial.copyFrom(now);
    int hour = trial.hourOfDay();
    for (int units = 0; units <= MAX_SUPPLY; units++) {
      trial.supply[hour] = units;
      flow.distribute(trial);
      if (flow.isContent(user)) return units;
    }
    return NONE;
  }

  public int usefulGate(int ditch) {
    if (!now.hasDitch(ditch)) return BAD_INDEX;
    trial.copyFrom(now);
    int wanted = unitsGotInTrial(ditch, MAX_GATE);
    for (int gate = 1; gate < MAX_GATE; gate++) {
      if (unitsGotInTrial(ditch, gate) == wanted) return gate;
    }
    return MAX_GATE;
  }

  // ---- time

  public int advance(int hours) {
    if (!isWithin(hours, 1, MAX_HOURS)) return BAD_VALUE;
    int sum = 0;
    for (int hour = 0; hour < hours; hour++) {
      sum += now.passHour(flow);
    }
    return sum;
  }

  public int account(int what) {
    return isWithin(what, 0, ACCOUNTS - 1) ? now.sums[what] : BAD_VALUE;
  }

  public int pond(int user) {
    return now.hasUser(user) ? now.user[user].content : BAD_INDEX;
  }

  public int missed(int user) {
    return now.hasUser(user) ? now.user[user].unitsMissed : BAD_INDEX;
  }

  public int willMiss(int user, int hours) {
    if (!now.hasUser(user)) return BAD_INDEX;
    if (!isWithin(hours, 1, MAX_HOURS)) return BAD_VALUE;
    trial.copyFrom(now);
    for (int hour = 0; hour < hours; hour++) {
      trial.passHour(flow);
    }
    return trial.user[user].unitsMissed - now.user[user].unitsMissed;
  }

  public int hoursToFull(int user) {
    if (!now.hasUser(user)) return BAD_INDEX;
    trial.copyFrom(now);
    for (int hours = 0; hours < MAX_HOURS; hours++) {
      if (trial.user[user].room() == 0) return hours;
      trial.passHour(flow);
    }
    return trial.user[user].room() == 0 ? MAX_HOURS : NONE;
  }

  // ---- disputes

  public int gain(int older, int younger) {
    if (!now.hasUser(older) || !now.hasUser(younger)) return BAD_INDEX;
    if (!now.isYounger(younger, older)) return NOT_POSSIBLE;
    return gainOf(older, younger);
  }

  public int complaint(int older, int younger) {
    if (!now.hasUser(older) || !now.hasUser(younger)) return BAD_INDEX;
    if (!now.isYounger(younger, older)) return NOT_POSSIBLE;
    return judge(older, younger);
  }

  public int settle() {
    int shut = 0;
    for (int older = 0; older < now.userCount; older++) {
      for (int younger = now.userCount - 1; younger > older; younger--) {
        if (judge(now.byAge[older], now.byAge[younger]) == UPHELD) {
          now.user[now.byAge[younger]].shut = true;
          shut++;
        }
      }
    }
    return shut;
  }

  public int isShut(int user) {
    if (!now.hasUser(user)) return BAD_INDEX;
    return now.user[user].shut ? 1 : 0;
  }

  // ---- text, slots, checksum

  public int append(int letter) {
    if (!isWithin(letter, 0, 127)) return BAD_VALUE;
    if (text.isFull()) return FULL;
    text.put(letter);
    return text.length;
  }

  public int clearText() {
    int previous = text.length;
    text.length = 0;
    return previous;
  }

  public int faultPosition() {
    trial.copyFrom(now);
    text.carryOut(trial);
    return text.fault;
  }

  public int read() {
    trial.copyFrom(now);
    text.carryOut(trial);
    if (text.fault != NONE) return NOT_POSSIBLE;
    now.copyFrom(trial);
    return text.orders;
  }

  public int save(int slot) {
    if (!isWithin(slot, 0, SLOTS - 1)) return BAD_INDEX;
    slots[slot].copyFrom(now);
    saved[slot] = true;
    return now.hoursPassed;
  }

  public int restore(int slot) {
    if (!isWithin(slot, 0, SLOTS - 1)) return BAD_INDEX;
    if (!saved[slot]) return NOT_POSSIBLE;
    now.copyFrom(slots[slot]);
    return now.hoursPassed;
  }

  public long checksum() {
    flow.distribute(now);
    long h = 53;
    h = 31 * h + now.hoursPassed;
    h = 31 * h + now.ditchCount;
    h = 31 * h + now.userCount;
    for (int ditch = 0; ditch < now.ditchCount; ditch++) {
      h = 31 * h + flow.into[ditch];
      h = 31 * h + flow.lostIn(ditch);
    }
    for (int number = 0; number < now.userCount; number++) {
      h = withUser(h, number);
    }
    for (int what = 0; what < ACCOUNTS; what++) {
      h = 31 * h + now.sums[what];
    }
    return 31 * h + now.userInTurn();
  }

  // ---- what the calls share

  private long withUser(long sum, int number) {
    User user = now.user[number];
    long h = sum;
    h = 31 * h + flow.asked[number];
    h = 31 * h + flow.got[number];
    h = 31 * h + user.content;
    h = 31 * h + user.unitsMissed;
    return 31 * h + (user.shut ? 1 : 0);
  }

  private int unitsGotInTrial(int ditch, int gate) {
    trial.ditch[ditch].gate = gate;
    flow.distribute(trial);
    return flow.unitsGot(trial);
  }

  /** Uses that a user who is shut off asks for nothing. */
  private int gainOf(int older, int younger) {
    flow.distribute(now);
    int before = flow.got[older];
    trial.copyFrom(now);
    trial.user[younger].shut = true;
    flow.distribute(trial);
    return flow.got[older] - before;
  }

  private int judge(int older, int younger) {
    flow.distribute(now);
    int taken = flow.got[younger];
    if (flow.isContent(older) || taken == 0) return UNFOUNDED;
    int gained = gainOf(older, younger);
    return gained == 0 || 100 * gained < now.futilePercent * taken ? FUTILE : UPHELD;
  }

  private static boolean isWithin(int value, int least, int greatest) {
    return value >= least && value <= greatest;
  }

  private static boolean areGateAndLoss(int gate, int loss) {
    return isWithin(gate, 1, MAX_GATE) && isWithin(loss, 0, MAX_LOSS);
  }

  /** Compares the hours, and does not add to the first one, which may be any number. */
  private static boolean areHours(int from, int to) {
    return isWithin(from, 0, DAY - 1) && to > from && to <= DAY;
  }

  // ---- the classes inside

  private static final class Ditch {
    int parent;
    int gate;
    int loss;

    void begin(int itsParent, int itsGate, int itsLoss) {
      parent = itsParent;
      gate = itsGate;
      loss = itsLoss;
    }

    /** What is passed on of so many units that flow in. */
    int passedOf(int units) {
      return units - (units * loss + 99) / 100;
    }

    /** The smallest inflow that passes on so many units. */
    int inflowFor(int units) {
      int kept = 100 - loss;
      return kept > 0 ? (100 * units + kept - 1) / kept : 0;
    }
  }

  private static final class User {
    int ditch;
    int year;
    int right;
    int need;
    int from;
    int to;
    int capacity;
    int content;
    int leak;
    int turnHours;
    int unitsMissed;
    boolean shut;

    void begin(int itsDitch, int itsYear, int itsRight) {
      ditch = itsDitch;
      year = itsYear;
      right = itsRight;
      need = 0;
      from = 0;
      to = 0;
      capacity = 0;
      content = 0;
      leak = 0;
      turnHours = 0;
      unitsMissed = 0;
      shut = false;
    }

    void copyFrom(User other) {
      begin(other.ditch, other.year, other.right);
      need = other.need;
      from = other.from;
      to = other.to;
      capacity = other.capacity;
      content = other.content;
      leak = other.leak;
      turnHours = other.turnHours;
      unitsMissed = other.unitsMissed;
      shut = other.shut;
    }

    int needAt(int hour) {
      return hour >= from && hour < to ? need : 0;
    }

    int room() {
      return capacity - content;
    }
  }

  /** All that a slot keeps: the district without its text. */
  private static final class State {
    final Ditch[] ditch = new Ditch[MAX_DITCHES];
    final User[] user = new User[MAX_USERS];
    final int[] byAge = new int[MAX_USERS];
    final int[] supply = new int[DAY];
    final int[] sums = new int[ACCOUNTS];
    int ditchCount;
    int userCount;
    int rule = BY_AGE;
    int futilePercent = 30;
    int hoursPassed;

    State() {
      for (int i = 0; i < MAX_DITCHES; i++) {
        ditch[i] = new Ditch();
      }
      for (int i = 0; i < MAX_USERS; i++) {
        user[i] = new User();
      }
      putSupply(0, DAY, 100);
      putDitch(0, 100, 0);
    }

    void copyFrom(State other) {
      ditchCount = other.ditchCount;
      for (int i = 0; i < ditchCount; i++) {
        Ditch source = other.ditch[i];
        ditch[i].begin(source.parent, source.gate, source.loss);
      }
      userCount = other.userCount;
      for (int i = 0; i < userCount; i++) {
        user[i].copyFrom(other.user[i]);
        byAge[i] = other.byAge[i];
      }
      for (int hour = 0; hour < DAY; hour++) {
        supply[hour] = other.supply[hour];
      }
      for (int what = 0; what < ACCOUNTS; what++) {
        sums[what] = other.sums[what];
      }
      rule = other.rule;
      futilePercent = other.futilePercent;
      hoursPassed = other.hoursPassed;
    }

    boolean hasDitch(int number) {
      return number >= 0 && number < ditchCount;
    }

    boolean hasUser(int number) {
      return number >= 0 && number < userCount;
    }

    boolean hasRoomForDitch() {
      return ditchCount < MAX_DITCHES;
    }

    boolean hasRoomForUser() {
      return userCount < MAX_USERS;
    }

    void putDitch(int parent, int gate, int loss) {
      if (!hasRoomForDitch()) return;
      ditch[ditchCount].begin(parent, gate, loss);
      ditchCount++;
    }

    /** The new user has the highest number, so it comes behind all others of its year. */
    void putUser(int itsDitch, int year, int right) {
      if (!hasRoomForUser()) return;
      int rank = userCount;
      for (; rank > 0 && user[byAge[rank - 1]].year > year; rank--) {
        byAge[rank] = byAge[rank - 1];
      }
      byAge[rank] = userCount;
      user[userCount].begin(itsDitch, year, right);
      userCount++;
    }

    void putSupply(int from, int to, int units) {
      for (int hour = Math.max(from, 0); hour < to && hour < DAY; hour++) {
        supply[hour] = units;
      }
    }

    int hourOfDay() {
      return Math.floorMod(hoursPassed, DAY);
    }

    int supplyNow() {
      return supply[hourOfDay()];
    }

    boolean isYounger(int number, int other) {
      int year = user[number].year;
      int otherYear = user[other].year;
      return year > otherYear || year == otherYear && number > other;
    }

    /** NONE if nobody has a turn by the rule. */
    int userInTurn() {
      int round = 0;
      for (int i = 0; i < userCount; i++) {
        round += user[i].turnHours;
      }
      if (rule != BY_TURNS || round <= 0) return NONE;
      int left = Math.floorMod(hoursPassed, round);
      for (int i = 0; i < userCount; i++) {
        if (left < user[i].turnHours) return i;
        left -= user[i].turnHours;
      }
      return NONE;
    }

    int unitsAsked(int number, int inTurn) {
      User asking = user[number];
      if (asking.shut) return 0;
      int wanted = asking.needAt(hourOfDay()) + asking.room();
      return number == inTurn ? wanted : Math.min(asking.right, wanted);
    }

    /** Answers what the fields missed in the hour. */
    int passHour(Flow flow) {
      flow.distribute(this);
      int missedBefore = sums[MISSED];
      sums[FLOWED] += flow.into[0];
      sums[STAYED] += supplyNow() - flow.into[0];
      for (int i = 0; i < ditchCount; i++) {
        sums[LOST] += flow.lostIn(i);
      }
      for (int i = 0; i < userCount; i++) {
        useWater(user[i], flow.got[i]);
      }
      hoursPassed++;
      return sums[MISSED] - missedBefore;
    }

    private void useWater(User of, int units) {
      int need = of.needAt(hourOfDay());
      int there = units + of.content;
      int used = Math.min(need, there);
      int leaked = Math.min(of.leak, there - used);
      of.content = there - used - leaked;
      of.unitsMissed += need - used;
      of.shut = false;
      sums[GOT] += units;
      sums[USED] += used;
      sums[LEAKED] += leaked;
      sums[MISSED] += need - used;
    }
  }

  /** The distribution of one hour. */
  private static final class Flow {
    final int[] asked = new int[MAX_USERS];
    final int[] got = new int[MAX_USERS];
    /** What flows into each ditch, and what it passes on. */
    final int[] into = new int[MAX_DITCHES];
    final int[] passed = new int[MAX_DITCHES];
    /** The greatest inflow that each ditch could have while all other amounts stay. */
    private final int[] most = new int[MAX_DITCHES];
    private int supply;

    void distribute(State state) {
      supply = state.supplyNow();
      int inTurn = state.userInTurn();
      for (int i = 0; i < state.userCount; i++) {
        asked[i] = state.unitsAsked(i, inTurn);
        got[i] = 0;
      }
      if (state.rule == IN_PROPORTION) giveGreatestShares(state);
      spread(state);
      if (state.hasUser(inTurn)) serve(state, inTurn);
      for (int rank = 0; rank < state.userCount; rank++) {
        int number = state.byAge[rank];
        if (number != inTurn) serve(state, number);
      }
    }

    boolean isContent(int user) {
      return got[user] == asked[user];
    }

    int lostIn(int ditch) {
      return into[ditch] - passed[ditch];
    }

    int unitsGot(State state) {
      int sum = 0;
      for (int i = 0; i < state.userCount; i++) {
        sum += got[i];
      }
      return sum;
    }

    /** The amounts are not those of the distribution after this. */
    int ditchAgainstOneMore(State state, int user) {
      got[user]++;
      spread(state);
      int ditch = state.user[user].ditch;
      // No way is longer than the number of ditches, and ditch 0 has itself as its parent.
      for (int steps = 0; steps < state.ditchCount; steps++) {
        if (into[ditch] > state.ditch[ditch].gate) return ditch;
        ditch = state.ditch[ditch].parent;
      }
      return NONE;
    }

    /** Smaller amounts stay possible, so the greatest share is found by ever smaller steps. */
    private void giveGreatestShares(State state) {
      int percent = 0;
      for (int step = 64; step > 0; step /= 2) {
        if (percent + step <= 100) {
          giveShares(state, percent + step);
          spread(state);
          if (isPossible(state)) percent += step;
        }
      }
      giveShares(state, percent);
    }

    private boolean isPossible(State state) {
      if (into[0] > supply) return false;
      for (int i = 0; i < state.ditchCount; i++) {
        if (into[i] > state.ditch[i].gate) return false;
      }
      return true;
    }

    private void giveShares(State state, int percent) {
      for (int i = 0; i < state.userCount; i++) {
        got[i] = asked[i] * percent / 100;
      }
    }

    /** A parent has a lower number, so what it passes on is known when its turn comes. */
    private void spread(State state) {
      for (int i = 0; i < state.ditchCount; i++) {
        passed[i] = 0;
      }
      for (int i = 0; i < state.userCount; i++) {
        passed[state.user[i].ditch] += got[i];
      }
      for (int i = state.ditchCount - 1; i >= 0; i--) {
        into[i] = state.ditch[i].inflowFor(passed[i]);
        if (i > 0) passed[state.ditch[i].parent] += into[i];
      }
    }

    private void serve(State state, int user) {
      int units = Math.min(asked[user], mostFor(state, user));
      if (units > got[user]) {
        got[user] = units;
        spread(state);
      }
    }

    private int mostFor(State state, int user) {
      most[0] = Math.min(state.ditch[0].gate, supply);
      for (int i = 1; i < state.ditchCount; i++) {
        int parent = state.ditch[i].parent;
        int left = state.ditch[parent].passedOf(most[parent]) - (passed[parent] - into[i]);
        most[i] = Math.min(state.ditch[i].gate, left);
      }
      int ditch = state.user[user].ditch;
      return state.ditch[ditch].passedOf(most[ditch]) - (passed[ditch] - got[user]);
    }
  }

  /** The text, and how far its orders have been followed. */
  private static final class Text {
    int length;
    /** Where the text last carried out has its fault, or NONE, and how many orders it has. */
    int fault = NONE;
    int orders;
    private final char[] letters = new char[MAX_TEXT];
    private int at;

    boolean isFull() {
      return length >= MAX_TEXT;
    }

    void put(int letter) {
      if (isFull()) return;
      letters[length] = (char) letter;
      length++;
    }

    /** Carries out the orders before the first fault, so that a fault leaves the state half done. */
    void carryOut(State state) {
      at = 0;
      fault = NONE;
      for (orders = 0; at < length && fault == NONE && orders < MAX_TEXT; orders++) {
        carryOutNext(state);
      }
    }

    private void carryOutNext(State state) {
      switch (letterHere()) {
        case 'd':
          addDitchTo(state);
          break;
        case 'u':
          addUserTo(state);
          break;
        case 't':
          setTurnIn(state);
          break;
        case 's':
          setSupplyIn(state);
          break;
        default:
          fault = at;
          break;
      }
    }

    private void addDitchTo(State state) {
      if (!state.hasRoomForDitch()) fault = at;
      at++;
      int parent = number(0, state.ditchCount - 1);
      pass('.');
      int gate = number(1, MAX_GATE);
      pass('.');
      int loss = number(0, MAX_LOSS);
      pass(';');
      if (fault == NONE) state.putDitch(parent, gate, loss);
    }

    private void addUserTo(State state) {
      if (!state.hasRoomForUser()) fault = at;
      at++;
      int ditch = number(0, state.ditchCount - 1);
      pass('.');
      int year = number(FIRST_YEAR, LAST_YEAR);
      pass('.');
      int right = number(0, MAX_RIGHT);
      pass(';');
      if (fault == NONE) state.putUser(ditch, year, right);
    }

    private void setTurnIn(State state) {
      at++;
      int user = number(0, state.userCount - 1);
      pass('.');
      int hours = number(0, MAX_TURN);
      pass(';');
      if (fault == NONE && state.hasUser(user)) state.user[user].turnHours = hours;
    }

    private void setSupplyIn(State state) {
      at++;
      int from = number(0, DAY - 1);
      pass('-');
      int to = number(from + 1, DAY);
      pass('.');
      int units = number(0, MAX_SUPPLY);
      pass(';');
      if (fault == NONE) state.putSupply(from, to, units);
    }

    /** A sign that stands for the end of the text, too, since no order has it. */
    private int letterHere() {
      return at < length ? letters[at] : 0;
    }

    private boolean isDigitHere() {
      return letterHere() >= '0' && letterHere() <= '9';
    }

    /** After a fault nothing more is looked at, so that the first fault stays. */
    private void pass(char sign) {
      if (fault != NONE) return;
      if (letterHere() == sign) {
        at++;
      } else {
        fault = at;
      }
    }

    /** The next number, or 0 if it is a fault. */
    private int number(int least, int greatest) {
      if (fault != NONE) return 0;
      int first = at;
      int value = 0;
      for (; at < length && isDigitHere(); at++) {
        // So great a number is out of every range, and must not overflow.
        value = Math.min(10 * value + letterHere() - '0', 10000);
      }
      boolean hasZeroInFront = at > first + 1 && letters[first] == '0';
      if (at == first || hasZeroInFront || !isWithin(value, least, greatest)) {
        fault = first;
        return 0;
      }
      return value;
    }
  }
}
