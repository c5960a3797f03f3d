/** All promises: long runs of calls, each answer compared with that of PlainDistrict. */
final class PlainModelTest {
  private static final int RUNS = 240;
  private static final int CALLS = 512;

  private long seed;
  private final int run;
  private final IrrigationDistrict real = new IrrigationDistrict();
  private final PlainDistrict plain = new PlainDistrict();
  private int calls = 0;
  private int wrongAnswers = 0;

  private PlainModelTest(int run) {
    this.run = run;
    this.seed = run * 7919L + 17;
  }

  public static void main(String[] args) {
    for (int run = 0; run < RUNS; run++) {
      new PlainModelTest(run).play();
    }
    Check.finish();
  }

  private int below(int bound) {
    seed = seed * 6364136223846793005L + 1442695040888963407L;
    return (int) ((seed >>> 33) % bound);
  }

  /** A number of the range, often one of its ends; now and then one beside it, or an extreme one. */
  private int value(int least, int greatest) {
    int kind = below(40);
    if (kind == 0) return least - 1;
    if (kind == 1) return greatest + 1;
    if (kind == 2 && below(3) == 0) return below(2) == 0 ? Integer.MIN_VALUE : Integer.MAX_VALUE;
    if (kind < 6) return least;
    if (kind < 9) return greatest;
    return greatest < least ? least : least + below(greatest - least + 1);
  }

  private int anyUser() {
    return value(0, plain.users() - 1);
  }

  private int anyDitch() {
    return value(0, plain.ditches() - 1);
  }

  private void due(String call, long got, long want) {
    calls++;
    if (got != want) wrongAnswers++;
    Check.due("run " + run + " call " + calls + " " + call, got, want);
  }

  private void play() {
    int built = 10 + below(40);
    while (calls < CALLS && wrongAnswers < 5) {
      if (calls < built || below(7) == 0) build();
      else if (below(12) == 0) writeText();
      else ask();
    }
  }

  private void build() {
    switch (below(11)) {
      case 0, 1 -> addDitch(anyDitch(), value(1, below(2) == 0 ? 60 : 200), value(0, below(2) == 0 ? 15 : 50));
      case 2, 3 -> addUser(anyDitch(), value(1800, below(3) == 0 ? 1803 : 2099), value(0, 60));
      case 4 -> setDitch(anyDitch(), value(1, 200), value(0, 50));
      case 5, 6 -> setField(anyUser(), value(0, 60), value(0, 23));
      case 7 -> setPond(anyUser(), value(0, below(2) == 0 ? 60 : 500), value(0, 20));
      case 8 -> setTurn(anyUser(), value(0, below(2) == 0 ? 3 : 24));
      case 9 -> setSupply(value(0, 23), value(0, below(2) == 0 ? 80 : 200));
      default -> setRuleOrFutile();
    }
  }

  private void addDitch(int a, int b, int c) {
    due("addDitch(" + a + ", " + b + ", " + c + ")", real.addDitch(a, b, c), plain.addDitch(a, b, c));
  }

  private void addUser(int a, int b, int c) {
    due("addUser(" + a + ", " + b + ", " + c + ")", real.addUser(a, b, c), plain.addUser(a, b, c));
  }

  private void setDitch(int a, int b, int c) {
    due("setDitch(" + a + ", " + b + ", " + c + ")", real.setDitch(a, b, c), plain.setDitch(a, b, c));
  }

  private void setField(int a, int b, int from) {
    int c = below(2) == 0 ? 0 : from;
    int to = below(2) == 0 ? 24 : value(c < 0 || c > 23 ? 1 : c + 1, 24);
    due("setField(" + a + ", " + b + ", " + c + ", " + to + ")", real.setField(a, b, c, to), plain.setField(a, b, c, to));
  }

  private void setPond(int a, int b, int c) {
    due("setPond(" + a + ", " + b + ", " + c + ")", real.setPond(a, b, c), plain.setPond(a, b, c));
  }

  private void setTurn(int a, int b) {
    due("setTurn(" + a + ", " + b + ")", real.setTurn(a, b), plain.setTurn(a, b));
  }

  private void setSupply(int from, int units) {
    int a = below(2) == 0 ? 0 : from;
    int to = below(2) == 0 ? 24 : value(a < 0 || a > 23 ? 1 : a + 1, 24);
    due("setSupply(" + a + ", " + to + ", " + units + ")", real.setSupply(a, to, units), plain.setSupply(a, to, units));
  }

  private void setRuleOrFutile() {
    int rule = value(0, 2);
    int percent = value(0, 100);
    if (below(3) > 0) due("setRule(" + rule + ")", real.setRule(rule), plain.setRule(rule));
    else due("setFutile(" + percent + ")", real.setFutile(percent), plain.setFutile(percent));
  }

  private void ask() {
    switch (below(10)) {
      case 0, 1, 2 -> askOfUser(anyUser());
      case 3 -> askOfDitch(anyDitch());
      case 4, 5 -> askOfPair(anyUser(), anyUser());
      case 6 -> pass();
      case 7 -> askOfDistrict();
      case 8 -> due("checksum()", real.checksum(), plain.checksum());
      default -> useSlot(below(4), value(0, 1));
    }
  }

  private void askOfUser(int u) {
    int hours = value(1, 48);
    int rank = below(14) - 1;
    switch (below(20)) {
      case 0, 1, 2 -> due("asks(" + u + ")", real.asks(u), plain.asks(u));
      case 3, 4, 5 -> due("gets(" + u + ")", real.gets(u), plain.gets(u));
      case 6, 7, 8, 9 -> due("limit(" + u + ")", real.limit(u), plain.limit(u));
      case 10, 11 -> due("pond(" + u + ")", real.pond(u), plain.pond(u));
      case 12, 13 -> due("missed(" + u + ")", real.missed(u), plain.missed(u));
      case 14 -> due("isShut(" + u + ")", real.isShut(u), plain.isShut(u));
      case 15 -> due("willMiss(" + u + ", " + hours + ")", real.willMiss(u, hours), plain.willMiss(u, hours));
      case 16, 17 -> due("hoursToFull(" + u + ")", real.hoursToFull(u), plain.hoursToFull(u));
      case 18 -> due("leastSupply(" + u + ")", real.leastSupply(u), plain.leastSupply(u));
      default -> due("userByAge(" + rank + ")", real.userByAge(rank), plain.userByAge(rank));
    }
  }

  private void askOfDitch(int d) {
    switch (below(5)) {
      case 0, 1 -> due("inflow(" + d + ")", real.inflow(d), plain.inflow(d));
      case 2, 3 -> due("loses(" + d + ")", real.loses(d), plain.loses(d));
      default -> due("usefulGate(" + d + ")", real.usefulGate(d), plain.usefulGate(d));
    }
  }

  private void askOfPair(int a, int b) {
    if (below(2) == 0) due("gain(" + a + ", " + b + ")", real.gain(a, b), plain.gain(a, b));
    else due("complaint(" + a + ", " + b + ")", real.complaint(a, b), plain.complaint(a, b));
  }

  private void pass() {
    int hours = value(1, below(3) == 0 ? 48 : 3);
    if (below(3) == 0) due("settle()", real.settle(), plain.settle());
    else due("advance(" + hours + ")", real.advance(hours), plain.advance(hours));
  }

  private void askOfDistrict() {
    int what = value(0, 6);
    switch (below(5)) {
      case 0 -> due("ditches()", real.ditches(), plain.ditches());
      case 1 -> due("users()", real.users(), plain.users());
      case 2 -> due("time()", real.time(), plain.time());
      case 3 -> due("turn()", real.turn(), plain.turn());
      default -> due("account(" + what + ")", real.account(what), plain.account(what));
    }
  }

  private void useSlot(int kind, int slot) {
    if (kind < 3 && below(2) == 0) due("save(" + slot + ")", real.save(slot), plain.save(slot));
    else if (below(3) == 0) due("restore(" + slot + ")", real.restore(slot), plain.restore(slot));
    else due("checksum()", real.checksum(), plain.checksum());
  }

  private void writeText() {
    if (below(3) > 0) due("clearText()", real.clearText(), plain.clearText());
    StringBuilder written = new StringBuilder();
    for (int orders = below(4); orders >= 0; orders--) {
      written.append(order());
    }
    if (below(3) == 0 && written.length() > 0) spoil(written);
    for (int i = 0; i < written.length() && calls < CALLS - 2; i++) {
      int letter = written.charAt(i);
      due("append(" + letter + ")", real.append(letter), plain.append(letter));
    }
    int odd = value(0, 127);
    if (below(20) == 0) due("append(" + odd + ")", real.append(odd), plain.append(odd));
    if (calls < CALLS) due("faultPosition()", real.faultPosition(), plain.faultPosition());
    if (calls < CALLS) due("read()", real.read(), plain.read());
  }

  /** Mostly a true one. Below 0 a number has a sign that does not belong to it. */
  private String order() {
    int from = value(0, 23);
    switch (below(4)) {
      case 0: return "d" + anyDitch() + "." + value(1, 200) + "." + value(0, 50) + ";";
      case 1: return "u" + anyDitch() + "." + value(1800, 2099) + "." + value(0, 60) + ";";
      case 2: return "t" + anyUser() + "." + value(0, 24) + ";";
      default: return "s" + from + "-" + value(from < 0 || from > 23 ? 1 : from + 1, 24) + "." + value(0, 200) + ";";
    }
  }

  private void spoil(StringBuilder text) {
    int at = below(text.length());
    switch (below(4)) {
      case 0 -> text.setLength(at);
      case 1 -> text.deleteCharAt(at);
      case 2 -> text.insert(at, "0123456789.-;duts D".charAt(below(19)));
      default -> text.setCharAt(at, (char) below(128));
    }
  }
}
