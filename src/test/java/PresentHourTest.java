/** Promises 14 to 22: the distribution of the present hour, and what is told of it. */
final class PresentHourTest {
  private static final int BAD_INDEX = IrrigationDistrict.BAD_INDEX;
  private static final int NOT_POSSIBLE = IrrigationDistrict.NOT_POSSIBLE;
  private static final int NONE = IrrigationDistrict.NONE;

  private PresentHourTest() {
  }

  public static void main(String[] args) {
    time();
    asks();
    asksInTurn();
    getsByAge();
    getsByTurns();
    getsInProportion();
    proportionByGateOfDitch0();
    inflowAndLoss();
    turn();
    limit();
    leastSupply();
    leastSupplyByTurns();
    usefulGate();
    leastIsNotAlwaysMonotone();
    questionsChangeNothing();
    Check.finish();
  }

  private static void time() {
    IrrigationDistrict d = new IrrigationDistrict();
    Check.due("14: at first", d.time(), 0);
    d.advance(48);
    d.advance(1);
    Check.due("14: after 49 hours", d.time(), 49);
    d.advance(0);
    d.advance(49);
    Check.due("14: after wrong calls", d.time(), 49);
  }

  /** A user with a field that needs so much the whole day. */
  private static int addUser(IrrigationDistrict d, int ditch, int year, int right, int need) {
    int user = d.addUser(ditch, year, right);
    d.setField(user, need, 0, 24);
    return user;
  }

  private static void asks() {
    IrrigationDistrict d = new IrrigationDistrict();
    addUser(d, 0, 1900, 20, 15);
    Check.due("15: need below right", d.asks(0), 15);
    d.setPond(0, 4, 0);
    Check.due("15: with room", d.asks(0), 19);
    d.setPond(0, 5, 0);
    Check.due("15: just the right", d.asks(0), 20);
    d.setPond(0, 6, 0);
    Check.due("15: above the right", d.asks(0), 20);
    d.advance(1);
    Check.due("15: less room", d.asks(0), 16);
    d.setField(0, 15, 5, 6);
    Check.due("15: room alone", d.asks(0), 1);
    d.setRule(2);
    Check.due("15: in proportion", d.asks(0), 1);
    Check.due("15: no such user", d.asks(1), BAD_INDEX);
    Check.due("15: user -1", d.asks(-1), BAD_INDEX);
    Check.due("15: extreme user", d.asks(Integer.MAX_VALUE), BAD_INDEX);
  }

  private static void asksInTurn() {
    IrrigationDistrict d = new IrrigationDistrict();
    addUser(d, 0, 1900, 20, 60);
    addUser(d, 0, 1900, 0, 50);
    d.setPond(0, 500, 0);
    d.setPond(1, 10, 0);
    d.setTurn(0, 1);
    d.setTurn(1, 1);
    Check.due("15: turns do not count by age", d.asks(0), 20);
    d.setRule(1);
    Check.due("15: in its turn", d.asks(0), 560);
    Check.due("15: not in its turn", d.asks(1), 0);
    d.advance(1);
    Check.due("15: no longer in its turn", d.asks(0), 20);
    Check.due("15: in its turn, without a right", d.asks(1), 60);
    d.setRule(2);
    Check.due("15: turns do not count in proportion", d.asks(1), 0);
  }

  private static void getsByAge() {
    IrrigationDistrict d = new IrrigationDistrict();
    d.addDitch(0, 30, 10);
    addUser(d, 0, 1950, 40, 40);
    addUser(d, 1, 1900, 25, 60);
    addUser(d, 1, 1900, 25, 60);
    addUser(d, 0, 1850, 60, 33);
    Check.due("16: oldest", d.gets(3), 33);
    Check.due("16: next", d.gets(1), 25);
    // The gate 30 passes on 27.
    Check.due("16: the same year", d.gets(2), 2);
    Check.due("16: youngest", d.gets(0), 37);
    d.setSupply(0, 1, 50);
    // 17 are left for ditch 1, which passes on 15 of them.
    Check.due("16: small supply, oldest", d.gets(3), 33);
    Check.due("16: small supply, next", d.gets(1), 15);
    Check.due("16: small supply, the same year", d.gets(2), 0);
    Check.due("16: small supply, youngest", d.gets(0), 0);
    d.setSupply(0, 1, 0);
    Check.due("16: no supply", d.gets(3), 0);
    d.setSupply(0, 1, 200);
    d.setDitch(0, 1, 50);
    // A unit that flows into ditch 0 is lost, since half of it is rounded up.
    Check.due("16: all is lost", d.gets(3), 0);
    d.setDitch(0, 2, 50);
    Check.due("16: one of two", d.gets(3), 1);
    Check.due("16: no such user", d.gets(4), BAD_INDEX);
    Check.due("16: user -1", d.gets(-1), BAD_INDEX);
  }

  private static void getsByTurns() {
    IrrigationDistrict d = new IrrigationDistrict();
    addUser(d, 0, 1800, 30, 30);
    addUser(d, 0, 1900, 10, 40);
    addUser(d, 0, 1850, 20, 20);
    d.setPond(1, 15, 0);
    d.setSupply(0, 24, 80);
    d.setTurn(1, 1);
    d.setTurn(2, 2);
    Check.due("16: the rule is by age", d.gets(0) * 10000 + d.gets(1) * 100 + d.gets(2), 301020);
    d.setRule(1);
    Check.due("16: in its turn", d.gets(1), 55);
    Check.due("16: the oldest of the others", d.gets(0), 25);
    Check.due("16: nothing left", d.gets(2), 0);
    d.setTurn(1, 0);
    d.setTurn(2, 0);
    Check.due("16: without turns as by age", d.gets(0) * 10000 + d.gets(1) * 100 + d.gets(2), 301020);
  }

  private static void getsInProportion() {
    IrrigationDistrict d = new IrrigationDistrict();
    addUser(d, 0, 1900, 50, 50);
    addUser(d, 0, 1800, 33, 33);
    addUser(d, 0, 1950, 7, 7);
    d.setRule(2);
    d.setSupply(0, 24, 60);
    // 69 % are 34, 22 and 4, which are 60; 70 % are 35, 23 and 4.
    Check.due("16: proportion", d.gets(0), 34);
    Check.due("16: proportion, and nothing is left for the oldest", d.gets(1), 22);
    Check.due("16: proportion of little", d.gets(2), 4);
    d.setSupply(0, 24, 61);
    Check.due("16: what is left goes to the oldest", d.gets(1), 23);
    Check.due("16: and not to the first", d.gets(0), 34);
    d.setSupply(0, 24, 90);
    Check.due("16: all", d.gets(0) * 10000 + d.gets(1) * 100 + d.gets(2), 503307);
    d.setSupply(0, 24, 0);
    Check.due("16: nothing", d.gets(0) + d.gets(1) + d.gets(2), 0);
    d.addDitch(0, 10, 0);
    addUser(d, 1, 2000, 40, 40);
    d.setSupply(0, 24, 100);
    // The gate lets 10 of 40 through, so k is 27 (40 * 27 / 100 = 10); then all others are filled up.
    Check.due("16: k by the narrowest gate", d.gets(3), 10);
    Check.due("16: the others are served", d.gets(0) + d.gets(1) + d.gets(2), 90);
    d.setSupply(0, 24, 30);
    // k = 24: 12 + 7 + 1 + 9 = 29, and one for the oldest.
    Check.due("16: k by the supply", d.gets(0) * 1000000 + d.gets(1) * 10000 + d.gets(2) * 100 + d.gets(3), 12080109);
  }

  private static void proportionByGateOfDitch0() {
    IrrigationDistrict d = new IrrigationDistrict();
    d.setDitch(0, 46, 0);
    d.setSupply(0, 24, 200);
    addUser(d, 0, 1900, 50, 50);
    addUser(d, 0, 1800, 50, 50);
    d.setRule(2);
    Check.due("16: by the gate of ditch 0", d.gets(0), 23);
    d.addUser(0, 1950, 60);
    d.setField(2, 60, 0, 24);
    d.setDitch(0, 43, 0);
    // 27 % are 13, 13 and 16, of which 28 % are more (14, 14 and 16); one is left for the oldest.
    Check.due("16: an odd k", d.gets(2), 16);
    Check.due("16: an odd k, oldest", d.gets(1), 14);
    Check.due("16: an odd k, next", d.gets(0), 13);
  }

  private static void inflowAndLoss() {
    IrrigationDistrict d = new IrrigationDistrict();
    d.setDitch(0, 100, 3);
    d.addDitch(0, 80, 10);
    d.addDitch(1, 60, 50);
    d.addDitch(0, 60, 20);
    addUser(d, 2, 1900, 10, 10);
    addUser(d, 1, 1900, 7, 7);
    // Ditch 2: 20; ditch 1 passes on 27: 30; ditch 0 passes on 30: 31.
    Check.due("17: ditch 2", d.inflow(2), 20);
    Check.due("18: ditch 2", d.loses(2), 10);
    Check.due("17: ditch 1", d.inflow(1), 30);
    Check.due("18: ditch 1", d.loses(1), 3);
    Check.due("17: ditch 0", d.inflow(0), 31);
    Check.due("18: ditch 0", d.loses(0), 1);
    Check.due("17: dry", d.inflow(3), 0);
    Check.due("18: dry", d.loses(3), 0);
    d.setField(1, 6, 0, 24);
    // Ditch 1 passes on 26: 29, of which 2.9, so 3, are lost. 28 pass on only 25.
    Check.due("17: smallest", d.inflow(1), 29);
    Check.due("18: rounded up", d.loses(1), 3);
    d.setField(0, 1, 0, 24);
    d.setDitch(2, 60, 1);
    // Of one unit all is lost with 1 %, of two one.
    Check.due("17: one unit", d.inflow(2), 2);
    Check.due("18: one unit", d.loses(2), 1);
    Check.due("17: no such ditch", d.inflow(4), BAD_INDEX);
    Check.due("17: ditch -1", d.inflow(-1), BAD_INDEX);
    Check.due("18: no such ditch", d.loses(4), BAD_INDEX);
    Check.due("18: ditch -1", d.loses(-1), BAD_INDEX);
  }

  private static void turn() {
    IrrigationDistrict d = new IrrigationDistrict();
    d.setRule(1);
    Check.due("19: nobody there", d.turn(), NONE);
    for (int i = 0; i < 4; i++) {
      addUser(d, 0, 2000 - i, 10, 10);
    }
    Check.due("19: all turns 0", d.turn(), NONE);
    d.setTurn(0, 2);
    d.setTurn(2, 1);
    d.setTurn(3, 3);
    int[] due = {0, 0, 2, 3, 3, 3, 0, 0, 2};
    for (int hour = 0; hour < due.length; hour++) {
      Check.due("19: hour " + hour, d.turn(), due[hour]);
      d.advance(1);
    }
    d.advance(48);
    // 57 hours are 9 rounds of 6, and 3 hours; they do not begin again each day.
    Check.due("19: hour 57", d.turn(), 3);
    d.setRule(0);
    Check.due("19: by age", d.turn(), NONE);
    d.setRule(2);
    Check.due("19: in proportion", d.turn(), NONE);
  }

  private static void limit() {
    IrrigationDistrict d = new IrrigationDistrict();
    d.addDitch(0, 40, 0);
    d.addDitch(1, 40, 0);
    addUser(d, 2, 1900, 50, 50);
    addUser(d, 1, 1950, 50, 50);
    Check.due("20: the nearest of two", d.limit(0), 2);
    Check.due("20: higher up", d.limit(1), 1);
    d.setDitch(2, 41, 0);
    Check.due("20: the one that is full", d.limit(0), 1);
    d.setDitch(1, 200, 0);
    d.setDitch(0, 45, 0);
    Check.due("20: its own again", d.limit(0), 2);
    Check.due("20: ditch 0", d.limit(1), 0);
    d.setSupply(0, 1, 45);
    Check.due("20: gate before supply", d.limit(1), 0);
    d.setSupply(0, 1, 44);
    Check.due("20: supply", d.limit(1), NONE);
    Check.due("20: gate, whatever the supply", d.limit(0), 2);
    d.setSupply(0, 1, 30);
    Check.due("20: supply of the older one", d.limit(0), NONE);
    d.setField(1, 0, 0, 24);
    Check.due("20: gets all, which is nothing", d.limit(1), NOT_POSSIBLE);
    d.setField(0, 30, 0, 24);
    Check.due("20: gets all", d.limit(0), NOT_POSSIBLE);
    IrrigationDistrict chain = new IrrigationDistrict();
    for (int ditch = 1; ditch < 10; ditch++) {
      chain.addDitch(ditch - 1, 60, 0);
    }
    addUser(chain, 9, 1900, 60, 60);
    chain.setDitch(0, 50, 0);
    Check.due("20: a long way", chain.limit(0), 0);
    chain.setDitch(5, 50, 0);
    Check.due("20: half of the way", chain.limit(0), 5);
    Check.due("20: no such user", d.limit(2), BAD_INDEX);
    Check.due("20: user -1", d.limit(-1), BAD_INDEX);
  }

  private static void leastSupply() {
    IrrigationDistrict d = new IrrigationDistrict();
    d.setDitch(0, 200, 10);
    addUser(d, 0, 1900, 30, 30);
    addUser(d, 0, 1950, 30, 30);
    addUser(d, 0, 1960, 60, 0);
    d.setSupply(0, 24, 5);
    // 30 need 34 (33 pass on 29), 60 need 67.
    Check.due("21: oldest", d.leastSupply(0), 34);
    Check.due("21: next", d.leastSupply(1), 67);
    Check.due("21: asks for nothing", d.leastSupply(2), 0);
    Check.due("21: the supply stays", d.setSupply(0, 24, 5), 5);
    d.setDitch(0, 66, 10);
    Check.due("21: the gate is too small", d.leastSupply(1), NONE);
    d.setDitch(0, 200, 50);
    Check.due("21: 60 units", d.leastSupply(0), 60);
    addUser(d, 0, 1970, 40, 40);
    Check.due("21: all 200", d.leastSupply(3), 200);
    d.setField(3, 41, 0, 24);
    Check.due("21: its right", d.leastSupply(3), 200);
    addUser(d, 0, 1980, 1, 1);
    Check.due("21: more than 200", d.leastSupply(4), NONE);
    Check.due("21: no such user", d.leastSupply(5), BAD_INDEX);
    Check.due("21: user -1", d.leastSupply(-1), BAD_INDEX);
    d.advance(1);
    Check.due("21: in another hour", d.leastSupply(1), 120);
    Check.due("21: the supply of that hour stays", d.setSupply(1, 2, 5), 5);
  }

  private static void leastSupplyByTurns() {
    IrrigationDistrict d = new IrrigationDistrict();
    d.setDitch(0, 200, 0);
    addUser(d, 0, 1900, 30, 30);
    addUser(d, 0, 1950, 10, 50);
    d.setTurn(1, 1);
    d.setRule(1);
    Check.due("21: in its turn", d.leastSupply(1), 50);
    Check.due("21: after the one in its turn", d.leastSupply(0), 80);
    d.setRule(2);
    Check.due("21: in proportion", d.leastSupply(1), 40);
  }

  private static void usefulGate() {
    IrrigationDistrict d = new IrrigationDistrict();
    d.addDitch(0, 10, 0);
    d.addDitch(0, 10, 50);
    addUser(d, 1, 1900, 40, 40);
    addUser(d, 0, 1950, 30, 30);
    Check.due("22: all that is asked for", d.usefulGate(1), 40);
    Check.due("22: a ditch that nobody uses", d.usefulGate(2), 1);
    Check.due("22: ditch 0", d.usefulGate(0), 40);
    Check.due("22: the gate stays", d.setDitch(1, 10, 0), 10);
    d.setSupply(0, 24, 50);
    // Whatever ditch 1 does not get, the other one takes: 20 are enough.
    Check.due("22: others take it", d.usefulGate(1), 20);
    d.setDitch(1, 10, 50);
    // With the gate 200 ditch 1 gets 50 and passes on 25.
    Check.due("22: exactly as many", totalWithGate(d, 1, 200), 25);
    Check.due("22: exactly as many, not more", d.usefulGate(1), 50);
    d.setDitch(0, 200, 0);
    d.setSupply(0, 24, 200);
    Check.due("22: with losses", d.usefulGate(1), 80);
    Check.due("22: no such ditch", d.usefulGate(3), BAD_INDEX);
    Check.due("22: ditch -1", d.usefulGate(-1), BAD_INDEX);
    d.setField(0, 0, 0, 24);
    d.setField(1, 0, 0, 24);
    Check.due("22: nobody asks", d.usefulGate(0), 1);
    IrrigationDistrict wide = new IrrigationDistrict();
    wide.setSupply(0, 24, 200);
    for (int i = 0; i < 4; i++) {
      addUser(wide, 0, 1900, 60, 60);
    }
    Check.due("22: the widest gate", wide.usefulGate(0), 200);
    wide.setDitch(0, 200, 1);
    Check.due("22: 200 and 199 pass on 198 and 197", wide.usefulGate(0), 200);
  }

  private static int totalWithGate(IrrigationDistrict d, int ditch, int gate) {
    int before = d.setDitch(ditch, gate, 50);
    int sum = 0;
    for (int user = 0; user < d.users(); user++) {
      sum += d.gets(user);
    }
    d.setDitch(ditch, before, 50);
    return sum;
  }

  /**
   * An older user at a lossy ditch takes more of a greater supply, and so does the ditch that both
   * hang on: the younger one has all it asks for with a small supply, and not with a greater one.
   */
  private static void leastIsNotAlwaysMonotone() {
    IrrigationDistrict d = new IrrigationDistrict();
    d.addDitch(0, 30, 0);
    d.addDitch(1, 200, 50);
    addUser(d, 2, 1900, 20, 20);
    addUser(d, 1, 1950, 1, 1);
    // One unit is all lost in ditch 2, and goes to the younger one; two are one for the older one.
    Check.due("21: the smallest of several", d.leastSupply(1), 1);
    d.setSupply(0, 24, 2);
    Check.due("21: not with a greater one", d.gets(1), 0);
    d.setSupply(0, 24, 200);
    Check.due("21: and not with a great one", d.gets(1), 0);
  }

  private static IrrigationDistrict someDistrict() {
    IrrigationDistrict d = new IrrigationDistrict();
    d.addDitch(0, 60, 10);
    addUser(d, 1, 1900, 30, 25);
    addUser(d, 0, 1850, 30, 25);
    addUser(d, 1, 1950, 30, 25);
    d.setPond(0, 50, 3);
    d.setTurn(2, 3);
    d.setTurn(1, 3);
    d.setRule(1);
    d.setSupply(3, 9, 44);
    d.advance(4);
    return d;
  }

  private static void questionsChangeNothing() {
    Check.changesNothing("14 to 22: questions", PresentHourTest::someDistrict, d -> {
      for (int n = -1; n < 4; n++) {
        long sum = d.asks(n) + d.gets(n) + d.inflow(n) + d.loses(n) + d.limit(n) + d.leastSupply(n) + d.usefulGate(n);
        Check.holds("14 to 22: answered", sum != 0);
      }
      Check.due("14: time", d.time(), 4);
      Check.due("19: turn", d.turn(), 2);
    });
  }
}
