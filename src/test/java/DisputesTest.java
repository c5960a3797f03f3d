/** Promises 29 to 32: complaints of older users of younger ones. */
final class DisputesTest {
  private static final int BAD_INDEX = IrrigationDistrict.BAD_INDEX;
  private static final int NOT_POSSIBLE = IrrigationDistrict.NOT_POSSIBLE;
  private static final int UNFOUNDED = IrrigationDistrict.UNFOUNDED;
  private static final int FUTILE = IrrigationDistrict.FUTILE;
  private static final int UPHELD = IrrigationDistrict.UPHELD;

  private DisputesTest() {
  }

  public static void main(String[] args) {
    gain();
    negativeGain();
    whoIsYounger();
    complaint();
    futileBounds();
    futileBoundOfMuch();
    settle();
    settleShutsAtOnce();
    settleOrder();
    isShut();
    shutInItsTurn();
    nothingChanges();
    Check.finish();
  }

  private static void addUsers(IrrigationDistrict d, int count, int units) {
    for (int i = 0; i < count; i++) {
      d.addUser(0, 1900 + i, units);
      d.setField(d.users() - 1, units, 0, 24);
    }
  }

  private static IrrigationDistrict inProportion(int count, int units, int supply) {
    IrrigationDistrict d = new IrrigationDistrict();
    addUsers(d, count, units);
    d.setRule(2);
    d.setSupply(0, 24, supply);
    return d;
  }

  private static void gain() {
    IrrigationDistrict d = inProportion(2, 40, 51);
    // 64 % are 25 and 25, and the oldest one is given 1 more.
    Check.due("16: half of it", d.gets(0), 26);
    Check.due("29: gain", d.gain(0, 1), 14);
    d.setSupply(0, 24, 30);
    Check.due("29: up to the supply", d.gain(0, 1), 15);
    d.setSupply(0, 24, 80);
    Check.due("29: nothing to gain", d.gain(0, 1), 0);
    d.setRule(0);
    d.setSupply(0, 24, 50);
    Check.due("29: by age a younger one takes nothing away", d.gain(0, 1), 0);
    Check.due("29: not younger", d.gain(1, 0), NOT_POSSIBLE);
    Check.due("29: itself", d.gain(0, 0), NOT_POSSIBLE);
    Check.due("29: no such older one", d.gain(2, 1), BAD_INDEX);
    Check.due("29: no such younger one", d.gain(0, 2), BAD_INDEX);
    Check.due("29: -1", d.gain(-1, 0), BAD_INDEX);
    Check.due("29: younger -1", d.gain(0, -1), BAD_INDEX);
    Check.due("29: index before the ages", d.gain(5, 5), BAD_INDEX);
    Check.due("32: nobody is shut off by it", d.isShut(1), 0);
  }

  /**
   * By turns: a young user in its turn takes what a middle one would otherwise take, and wastes less
   * of the gate that the oldest one, not in its turn, needs.
   */
  private static void negativeGain() {
    IrrigationDistrict d = new IrrigationDistrict();
    addUsers(d, 1, 10);
    d.addDitch(0, 1, 0);
    d.addUser(1, 2000, 20);
    d.setField(1, 20, 0, 24);
    d.addUser(0, 1950, 20);
    d.setField(2, 20, 0, 24);
    d.setRule(2);
    d.setSupply(0, 24, 15);
    // With user 1, who can get 1 unit, k is 9: 0, 1 and 1; the oldest is then filled up to 10.
    Check.due("16: oldest", d.gets(0), 10);
    // Without it k is 50: 5 and 10.
    Check.due("29: a loss by it", d.gain(0, 1), -5);
    Check.due("30: it gets all it asks for", d.complaint(0, 1), UNFOUNDED);
    d.setField(0, 60, 0, 24);
    d.setFutile(0);
    Check.due("29: no gain or less", d.gain(0, 1), -5);
    d.setDitch(1, 1, 0);
    d.setPond(0, 20, 0);
    Check.due("15: by its right", d.asks(0), 10);
    d.setSupply(0, 24, 8);
    // With user 1: k = 9, then all 8 are given out, 6 of them to the oldest.
    Check.due("16: oldest, less", d.gets(0), 6);
    Check.due("29: still less", d.gain(0, 1), -3);
    Check.due("30: futile below 0, though f is 0", d.complaint(0, 1), FUTILE);
  }

  private static void whoIsYounger() {
    IrrigationDistrict d = new IrrigationDistrict();
    d.addUser(0, 1950, 10);
    d.addUser(0, 1900, 10);
    d.addUser(0, 1950, 10);
    Check.due("29: earlier year", d.gain(1, 0), 0);
    Check.due("29: later year", d.gain(0, 1), NOT_POSSIBLE);
    Check.due("29: same year, lower number", d.gain(0, 2), 0);
    Check.due("29: same year, higher number", d.gain(2, 0), NOT_POSSIBLE);
    Check.due("30: earlier year", d.complaint(1, 2), UNFOUNDED);
    Check.due("30: later year", d.complaint(2, 1), NOT_POSSIBLE);
    Check.due("30: same year, higher number", d.complaint(2, 0), NOT_POSSIBLE);
  }

  private static void complaint() {
    IrrigationDistrict d = inProportion(2, 40, 50);
    Check.due("30: upheld", d.complaint(0, 1), UPHELD);
    d.setSupply(0, 24, 80);
    Check.due("30: gets all", d.complaint(0, 1), UNFOUNDED);
    d.setSupply(0, 24, 50);
    d.setField(1, 0, 0, 24);
    Check.due("30: the younger one gets nothing", d.complaint(0, 1), UNFOUNDED);
    d.setSupply(0, 24, 20);
    Check.due("30: nor here, where the older one wants more", d.complaint(0, 1), UNFOUNDED);
    Check.due("30: not younger", d.complaint(1, 0), NOT_POSSIBLE);
    Check.due("30: itself", d.complaint(1, 1), NOT_POSSIBLE);
    Check.due("30: no such older one", d.complaint(2, 1), BAD_INDEX);
    Check.due("30: no such younger one", d.complaint(0, 2), BAD_INDEX);
    Check.due("30: -1", d.complaint(0, -1) + d.complaint(-1, 0), 2 * BAD_INDEX);
    Check.due("30: index before the ages", d.complaint(5, 5), BAD_INDEX);
    IrrigationDistrict apart = new IrrigationDistrict();
    apart.addDitch(0, 10, 0);
    apart.addUser(1, 1900, 30);
    apart.addUser(0, 1950, 30);
    apart.setField(0, 30, 0, 24);
    apart.setField(1, 30, 0, 24);
    apart.setFutile(0);
    Check.due("30: no gain is futile, though f is 0", apart.complaint(0, 1), FUTILE);
  }

  /** The gain is 6 of 20 units that the younger one gets: 30 in the hundred. */
  private static void futileBounds() {
    IrrigationDistrict d = new IrrigationDistrict();
    d.addDitch(0, 200, 0);
    d.addDitch(0, 26, 0);
    d.addUser(2, 1900, 26);
    d.setField(0, 26, 0, 24);
    d.addUser(0, 1950, 20);
    d.setField(1, 20, 0, 24);
    d.setTurn(1, 1);
    d.setRule(1);
    d.setSupply(0, 24, 40);
    Check.due("16: the younger one", d.gets(1), 20);
    Check.due("29: the gain", d.gain(0, 1), 6);
    Check.due("30: just enough", d.complaint(0, 1), UPHELD);
    d.setFutile(31);
    Check.due("30: just too little", d.complaint(0, 1), FUTILE);
    d.setFutile(29);
    Check.due("30: more than enough", d.complaint(0, 1), UPHELD);
    d.setFutile(0);
    Check.due("30: f is 0", d.complaint(0, 1), UPHELD);
    d.setFutile(100);
    Check.due("30: f is 100", d.complaint(0, 1), FUTILE);
  }

  /** The gain is 20 of 59 units: 2000 is less than 34 times 59 by 6. */
  private static void futileBoundOfMuch() {
    IrrigationDistrict d = new IrrigationDistrict();
    d.setDitch(0, 200, 0);
    addUsers(d, 1, 60);
    d.addUser(0, 1950, 59);
    d.setField(1, 59, 0, 24);
    d.setTurn(1, 1);
    d.setRule(1);
    d.setSupply(0, 24, 99);
    Check.due("29: the gain", d.gain(0, 1), 20);
    d.setFutile(34);
    Check.due("30: a little too little", d.complaint(0, 1), FUTILE);
    d.setFutile(33);
    Check.due("30: enough", d.complaint(0, 1), UPHELD);
  }

  private static void settle() {
    IrrigationDistrict d = inProportion(2, 40, 50);
    Check.due("31: one", d.settle(), 1);
    Check.due("32: the younger one", d.isShut(1), 1);
    Check.due("32: not the older one", d.isShut(0), 0);
    Check.due("15: asks for nothing", d.asks(1), 0);
    Check.due("16: gets nothing", d.gets(1), 0);
    Check.due("16: the older one has it all", d.gets(0), 40);
    Check.due("31: nobody more", d.settle(), 0);
    Check.due("32: still", d.isShut(1), 1);
    d.advance(1);
    Check.due("32: for an hour", d.isShut(1), 0);
    Check.due("31: again in the next hour", d.settle(), 1);
    d.advance(1);
    d.setRule(0);
    Check.due("31: by age nobody", d.settle(), 0);
  }

  /** When the youngest one is shut off, the others have enough, so that nobody else is. */
  private static void settleShutsAtOnce() {
    IrrigationDistrict d = inProportion(3, 30, 60);
    Check.due("30: of the second", d.complaint(0, 1), UPHELD);
    Check.due("30: of the youngest", d.complaint(0, 2), UPHELD);
    Check.due("31: one is enough", d.settle(), 1);
    Check.due("32: the youngest one", d.isShut(2) - d.isShut(1), 1);
    d.advance(1);
    d.setSupply(0, 24, 30);
    Check.due("31: all younger ones", d.settle(), 2);
    Check.due("16: the oldest one has it all", d.gets(0), 30);
    Check.due("32: both", d.isShut(2) + d.isShut(1), 2);
  }

  /** The order is that of the ages, and not that of the numbers. */
  private static void settleOrder() {
    IrrigationDistrict d = new IrrigationDistrict();
    int[] years = {1990, 1900, 1950};
    for (int user = 0; user < 3; user++) {
      d.addUser(0, years[user], 30);
      d.setField(user, 30, 0, 24);
    }
    d.setRule(2);
    d.setSupply(0, 24, 60);
    Check.due("31: one", d.settle(), 1);
    Check.due("32: the youngest, who has the number 0", d.isShut(0), 1);
    Check.due("32: not the middle one", d.isShut(2), 0);
  }

  private static void isShut() {
    IrrigationDistrict d = inProportion(1, 30, 60);
    Check.due("32: not shut off", d.isShut(0), 0);
    Check.due("32: no such user", d.isShut(1), BAD_INDEX);
    Check.due("32: user -1", d.isShut(-1), BAD_INDEX);
    Check.due("32: extreme user", d.isShut(Integer.MIN_VALUE), BAD_INDEX);
  }

  private static void shutInItsTurn() {
    IrrigationDistrict d = new IrrigationDistrict();
    addUsers(d, 2, 40);
    d.setSupply(0, 24, 50);
    d.setTurn(1, 24);
    d.setRule(1);
    Check.due("29: by the turn", d.gain(0, 1), 30);
    Check.due("30: upheld", d.complaint(0, 1), UPHELD);
    Check.due("31: shut off in its turn", d.settle(), 1);
    Check.due("19: it is its turn all the same", d.turn(), 1);
    Check.due("15: it asks for nothing", d.asks(1), 0);
    Check.due("16: it gets nothing", d.gets(1), 0);
    Check.due("16: the older one", d.gets(0), 40);
    Check.due("29: no gain by one who is shut off", d.gain(0, 1), 0);
    Check.due("20: it gets all it asks for", d.limit(1), NOT_POSSIBLE);
    Check.due("21: with no supply", d.leastSupply(1), 0);
    Check.due("23: and misses it", d.advance(1), 40);
  }

  private static void nothingChanges() {
    Check.changesNothing("29 to 32: errors and questions", () -> inProportion(4, 35, 70), d -> {
      for (int a = -1; a < 5; a++) {
        for (int b = -1; b < 5; b++) {
          d.gain(a, b);
          d.complaint(a, b);
        }
        d.isShut(a);
      }
    });
    Check.changesNothing("31: settling with nothing to settle", () -> inProportion(2, 35, 70), d -> d.settle());
  }
}
