import java.util.ArrayList;
import java.util.List;

/**
 * The document in its own words: amounts are tried one after another, and each distribution is
 * tested as a whole. It shares no way of reckoning with IrrigationDistrict, and is compared with it.
 */
final class PlainDistrict {
  static final int BAD_INDEX = -101, BAD_VALUE = -102, NOT_POSSIBLE = -103, FULL = -104, NONE = -105;

  private static final class Ditch {
    int parent, gate, loss;
  }

  private static final class User {
    int ditch, year, right, need, from, to, capacity, content, leak, turn, missed;
    boolean shut;
  }

  private static final class Share {
    int[] asks, gets;
  }

  private List<Ditch> ditches = new ArrayList<>();
  private List<User> users = new ArrayList<>();
  private int[] supply = new int[24];
  private int[] account = new int[7];
  private int rule = 0, futile = 30, time = 0;
  private String text = "";
  private final PlainDistrict[] slots = new PlainDistrict[2];

  PlainDistrict() {
    Ditch first = new Ditch();
    first.parent = -1;
    first.gate = 100;
    ditches.add(first);
    java.util.Arrays.fill(supply, 100);
  }

  private PlainDistrict copy() {
    PlainDistrict c = new PlainDistrict();
    c.takeFrom(this);
    return c;
  }

  private void takeFrom(PlainDistrict o) {
    ditches = new ArrayList<>();
    for (Ditch d : o.ditches) {
      Ditch n = new Ditch();
      n.parent = d.parent; n.gate = d.gate; n.loss = d.loss;
      ditches.add(n);
    }
    users = new ArrayList<>();
    for (User u : o.users) {
      User n = new User();
      n.ditch = u.ditch; n.year = u.year; n.right = u.right; n.need = u.need; n.from = u.from; n.to = u.to;
      n.capacity = u.capacity; n.content = u.content; n.leak = u.leak; n.turn = u.turn; n.missed = u.missed;
      n.shut = u.shut;
      users.add(n);
    }
    supply = o.supply.clone();
    account = o.account.clone();
    rule = o.rule; futile = o.futile; time = o.time;
  }

  private boolean noDitch(int d) { return d < 0 || d >= ditches.size(); }
  private boolean noUser(int u) { return u < 0 || u >= users.size(); }
  private static boolean out(int v, int a, int b) { return v < a || v > b; }

  int addDitch(int parent, int gate, int loss) {
    if (noDitch(parent)) return BAD_INDEX;
    if (out(gate, 1, 200) || out(loss, 0, 50)) return BAD_VALUE;
    if (ditches.size() == 10) return FULL;
    Ditch d = new Ditch();
    d.parent = parent; d.gate = gate; d.loss = loss;
    ditches.add(d);
    return ditches.size() - 1;
  }

  int setDitch(int ditch, int gate, int loss) {
    if (noDitch(ditch)) return BAD_INDEX;
    if (out(gate, 1, 200) || out(loss, 0, 50)) return BAD_VALUE;
    Ditch d = ditches.get(ditch);
    int old = d.gate;
    d.gate = gate; d.loss = loss;
    return old;
  }

  int addUser(int ditch, int year, int right) {
    if (noDitch(ditch)) return BAD_INDEX;
    if (out(year, 1800, 2099) || out(right, 0, 60)) return BAD_VALUE;
    if (users.size() == 12) return FULL;
    User u = new User();
    u.ditch = ditch; u.year = year; u.right = right;
    users.add(u);
    return users.size() - 1;
  }

  int setField(int user, int need, int from, int to) {
    if (noUser(user)) return BAD_INDEX;
    if (out(need, 0, 60) || out(from, 0, 23) || out(to, from + 1, 24)) return BAD_VALUE;
    User u = users.get(user);
    int old = u.need;
    u.need = need; u.from = from; u.to = to;
    return old;
  }

  int setPond(int user, int capacity, int leak) {
    if (noUser(user)) return BAD_INDEX;
    if (out(capacity, 0, 500) || out(leak, 0, 20)) return BAD_VALUE;
    User u = users.get(user);
    u.capacity = capacity; u.leak = leak;
    if (u.content > capacity) u.content = capacity;
    return u.content;
  }

  int setTurn(int user, int hours) {
    if (noUser(user)) return BAD_INDEX;
    if (out(hours, 0, 24)) return BAD_VALUE;
    int old = users.get(user).turn;
    users.get(user).turn = hours;
    return old;
  }

  int setSupply(int from, int to, int units) {
    if (out(from, 0, 23) || out(to, from + 1, 24) || out(units, 0, 200)) return BAD_VALUE;
    int old = supply[from];
    for (int h = from; h < to; h++) supply[h] = units;
    return old;
  }

  int setRule(int r) {
    if (out(r, 0, 2)) return BAD_VALUE;
    int old = rule;
    rule = r;
    return old;
  }

  int setFutile(int percent) {
    if (out(percent, 0, 100)) return BAD_VALUE;
    int old = futile;
    futile = percent;
    return old;
  }

  int ditches() { return ditches.size(); }
  int users() { return users.size(); }
  int time() { return time; }

  private boolean older(int a, int b) {
    if (users.get(a).year != users.get(b).year) return users.get(a).year < users.get(b).year;
    return a < b;
  }

  /** The rank of a user is the number of users that are older. */
  int userByAge(int rank) {
    for (int u = 0; u < users.size(); u++) {
      int olderOnes = 0;
      for (int v = 0; v < users.size(); v++) if (older(v, u)) olderOnes++;
      if (olderOnes == rank) return u;
    }
    return BAD_INDEX;
  }

  int turn() {
    if (rule != 1) return NONE;
    List<Integer> round = new ArrayList<>();
    for (int u = 0; u < users.size(); u++) {
      for (int h = 0; h < users.get(u).turn; h++) round.add(u);
    }
    return round.isEmpty() ? NONE : round.get(time % round.size());
  }

  private int needNow(User u) {
    int h = time % 24;
    return u.from <= h && h < u.to ? u.need : 0;
  }

  private int asksFor(int user) {
    User u = users.get(user);
    if (u.shut) return 0;
    int wish = needNow(u) + u.capacity - u.content;
    return turn() == user ? wish : Math.min(u.right, wish);
  }

  private static int lost(int x, int loss) {
    int hundredths = x * loss;
    return hundredths / 100 + (hundredths % 100 == 0 ? 0 : 1);
  }

  /** For each loss and each number of units to pass on, the smallest inflow, found by trying all. */
  private static final int[][] INFLOWS = inflows();

  private static int[][] inflows() {
    int[][] table = new int[51][4000];
    for (int loss = 0; loss <= 50; loss++) {
      for (int x = 8100; x >= 0; x--) {
        int y = x - lost(x, loss);
        if (y < 4000) table[loss][y] = x;
      }
    }
    return table;
  }

  /** The inflow of a ditch by the amounts; below a closed-up ditch (-1) nothing is reckoned. */
  private int inflowBy(int[] gets, int ditch, boolean heedGates) {
    int y = 0;
    for (int u = 0; u < users.size(); u++) if (users.get(u).ditch == ditch) y += gets[u];
    for (int d = ditch + 1; d < ditches.size(); d++) {
      if (ditches.get(d).parent != ditch) continue;
      int x = inflowBy(gets, d, heedGates);
      if (x < 0) return -1;
      y += x;
    }
    if (heedGates && y > 400) return -1;
    int x = INFLOWS[ditches.get(ditch).loss][y];
    return heedGates && x > ditches.get(ditch).gate ? -1 : x;
  }

  private boolean possible(int[] gets) {
    int x = inflowBy(gets, 0, true);
    return x >= 0 && x <= supply[time % 24];
  }

  private void serve(Share s, int user) {
    int has = s.gets[user];
    for (int a = s.asks[user]; a > has; a--) {
      s.gets[user] = a;
      if (possible(s.gets)) return;
    }
    s.gets[user] = has;
  }

  private Share distribute(int askingNothing) {
    int n = users.size();
    Share s = new Share();
    s.asks = new int[n];
    s.gets = new int[n];
    for (int u = 0; u < n; u++) s.asks[u] = u == askingNothing ? 0 : asksFor(u);
    if (rule == 2) {
      for (int k = 100; k >= 0; k--) {
        for (int u = 0; u < n; u++) s.gets[u] = s.asks[u] * k / 100;
        if (possible(s.gets)) break;
      }
    }
    int turn = turn();
    if (turn != NONE) serve(s, turn);
    for (int rank = 0; rank < n; rank++) {
      if (userByAge(rank) != turn) serve(s, userByAge(rank));
    }
    return s;
  }

  int asks(int user) { return noUser(user) ? BAD_INDEX : asksFor(user); }
  int gets(int user) { return noUser(user) ? BAD_INDEX : distribute(-1).gets[user]; }
  int inflow(int ditch) { return noDitch(ditch) ? BAD_INDEX : inflowBy(distribute(-1).gets, ditch, false); }

  int loses(int ditch) {
    return noDitch(ditch) ? BAD_INDEX : lost(inflow(ditch), ditches.get(ditch).loss);
  }

  int limit(int user) {
    if (noUser(user)) return BAD_INDEX;
    Share s = distribute(-1);
    if (s.gets[user] == s.asks[user]) return NOT_POSSIBLE;
    s.gets[user]++;
    for (int d = users.get(user).ditch; d >= 0; d = ditches.get(d).parent) {
      if (inflowBy(s.gets, d, false) > ditches.get(d).gate) return d;
    }
    return NONE;
  }

  int leastSupply(int user) {
    if (noUser(user)) return BAD_INDEX;
    for (int units = 0; units <= 200; units++) {
      PlainDistrict other = copy();
      other.supply[time % 24] = units;
      Share s = other.distribute(-1);
      if (s.gets[user] == s.asks[user]) return units;
    }
    return NONE;
  }

  int usefulGate(int ditch) {
    if (noDitch(ditch)) return BAD_INDEX;
    int[] sums = new int[201];
    for (int gate = 1; gate <= 200; gate++) {
      PlainDistrict other = copy();
      other.ditches.get(ditch).gate = gate;
      for (int units : other.distribute(-1).gets) sums[gate] += units;
    }
    for (int gate = 1; gate <= 200; gate++) if (sums[gate] == sums[200]) return gate;
    throw new IllegalStateException();
  }

  private int passHour() {
    Share s = distribute(-1);
    int flowed = inflowBy(s.gets, 0, false);
    account[0] += flowed;
    account[1] += supply[time % 24] - flowed;
    for (int d = 0; d < ditches.size(); d++) {
      account[2] += lost(inflowBy(s.gets, d, false), ditches.get(d).loss);
    }
    int missed = 0;
    for (int i = 0; i < users.size(); i++) {
      User u = users.get(i);
      int has = s.gets[i] + u.content;
      account[3] += s.gets[i];
      int need = needNow(u);
      while (need > 0 && has > 0) {
        need--;
        has--;
        account[4]++;
      }
      for (int l = 0; l < u.leak && has > 0; l++) {
        has--;
        account[5]++;
      }
      u.content = has;
      u.missed += need;
      missed += need;
    }
    account[6] += missed;
    for (User u : users) u.shut = false;
    time++;
    return missed;
  }

  int advance(int hours) {
    if (out(hours, 1, 48)) return BAD_VALUE;
    int sum = 0;
    for (int h = 0; h < hours; h++) sum += passHour();
    return sum;
  }

  int account(int what) { return out(what, 0, 6) ? BAD_VALUE : account[what]; }
  int pond(int user) { return noUser(user) ? BAD_INDEX : users.get(user).content; }
  int missed(int user) { return noUser(user) ? BAD_INDEX : users.get(user).missed; }

  int willMiss(int user, int hours) {
    if (noUser(user)) return BAD_INDEX;
    if (out(hours, 1, 48)) return BAD_VALUE;
    PlainDistrict other = copy();
    other.advance(hours);
    return other.missed(user) - missed(user);
  }

  int hoursToFull(int user) {
    if (noUser(user)) return BAD_INDEX;
    PlainDistrict other = copy();
    for (int h = 0; h <= 48; h++) {
      if (other.users.get(user).content == other.users.get(user).capacity) return h;
      other.passHour();
    }
    return NONE;
  }

  int gain(int a, int b) {
    if (noUser(a) || noUser(b)) return BAD_INDEX;
    if (a == b || !older(a, b)) return NOT_POSSIBLE;
    return distribute(b).gets[a] - distribute(-1).gets[a];
  }

  int complaint(int a, int b) {
    int gain = gain(a, b);
    if (gain == BAD_INDEX || gain == NOT_POSSIBLE) return gain;
    Share s = distribute(-1);
    if (s.gets[a] == s.asks[a] || s.gets[b] == 0) return 0;
    if (100 * gain < futile * s.gets[b] || gain == 0) return 1;
    return 2;
  }

  int settle() {
    int count = 0;
    for (int i = 0; i < users.size(); i++) {
      for (int j = users.size() - 1; j > i; j--) {
        int b = userByAge(j);
        if (complaint(userByAge(i), b) == 2) {
          if (!users.get(b).shut) count++;
          users.get(b).shut = true;
        }
      }
    }
    return count;
  }

  int isShut(int user) { return noUser(user) ? BAD_INDEX : users.get(user).shut ? 1 : 0; }

  int append(int letter) {
    if (out(letter, 0, 127)) return BAD_VALUE;
    if (text.length() == 100) return FULL;
    text += (char) letter;
    return text.length();
  }

  int clearText() {
    int old = text.length();
    text = "";
    return old;
  }

  /** Where the forms of the orders, with N for a number, leave the text; the orders are carried out. */
  private int[] follow(PlainDistrict on) {
    int at = 0;
    int orders = 0;
    while (at < text.length()) {
      int kind = "duts".indexOf(text.charAt(at));
      if (kind < 0) return new int[] {at, 0};
      if (kind == 0 && on.ditches() == 10 || kind == 1 && on.users() == 12) return new int[] {at, 0};
      String form = new String[] {"N.N.N;", "N.N.N;", "N.N;", "N-N.N;"}[kind];
      at++;
      int[] numbers = new int[3];
      int count = 0;
      for (char sign : form.toCharArray()) {
        if (sign != 'N') {
          if (at == text.length() || text.charAt(at) != sign) return new int[] {at, 0};
          at++;
          continue;
        }
        int end = at;
        while (end < text.length() && "0123456789".indexOf(text.charAt(end)) >= 0) end++;
        String digits = text.substring(at, end);
        if (digits.isEmpty() || digits.length() > 4) return new int[] {at, 0};
        if (digits.length() > 1 && digits.startsWith("0")) return new int[] {at, 0};
        numbers[count] = Integer.parseInt(digits);
        if (!on.mayStand(kind, count, numbers)) return new int[] {at, 0};
        count++;
        at = end;
      }
      if (kind == 0) on.addDitch(numbers[0], numbers[1], numbers[2]);
      if (kind == 1) on.addUser(numbers[0], numbers[1], numbers[2]);
      if (kind == 2) on.setTurn(numbers[0], numbers[1]);
      if (kind == 3) on.setSupply(numbers[0], numbers[1], numbers[2]);
      orders++;
    }
    return new int[] {NONE, orders};
  }

  private boolean mayStand(int kind, int place, int[] numbers) {
    int n = numbers[place];
    switch (kind * 3 + place) {
      case 0: case 3: return n < ditches.size();
      case 1: return n >= 1 && n <= 200;
      case 2: return n <= 50;
      case 4: return n >= 1800 && n <= 2099;
      case 5: return n <= 60;
      case 6: return n < users.size();
      case 7: return n <= 24;
      case 9: return n <= 23;
      case 10: return n > numbers[0] && n <= 24;
      default: return n <= 200;
    }
  }

  int faultPosition() { return follow(copy())[0]; }

  int read() {
    if (faultPosition() != NONE) return NOT_POSSIBLE;
    return follow(this)[1];
  }

  int save(int slot) {
    if (out(slot, 0, 1)) return BAD_INDEX;
    slots[slot] = copy();
    return time;
  }

  int restore(int slot) {
    if (out(slot, 0, 1)) return BAD_INDEX;
    if (slots[slot] == null) return NOT_POSSIBLE;
    takeFrom(slots[slot]);
    return time;
  }

  long checksum() {
    List<Integer> values = new ArrayList<>(List.of(time, ditches(), users()));
    int[] gets = distribute(-1).gets;
    for (int d = 0; d < ditches(); d++) {
      int x = inflowBy(gets, d, false);
      values.add(x);
      values.add(lost(x, ditches.get(d).loss));
    }
    for (int u = 0; u < users(); u++) {
      values.addAll(List.of(asks(u), gets[u], pond(u), missed(u), isShut(u)));
    }
    for (int what = 0; what < 7; what++) values.add(account(what));
    values.add(turn());
    long h = 53;
    for (int value : values) h = 31 * h + value;
    return h;
  }
}
