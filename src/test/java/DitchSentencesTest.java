/** The sentences of the Description on ditches, users, fields, ponds, the time and the supply, at their edges. */
final class DitchSentencesTest {
  private static final int BAD_INDEX = IrrigationDistrict.BAD_INDEX;
  private static final int FULL = IrrigationDistrict.FULL;
  private static final int NONE = IrrigationDistrict.NONE;

  private DitchSentencesTest() {
  }

  public static void main(String[] args) {
    oneToTenDitches();
    parentHasLowerNumber();
    gateLetsInAtMost();
    lossesOfAllGates();
    smallestInflowsOfAllUnits();
    nothingForNothing();
    ditch0AtFirst();
    tenLossyDitchesInARow();
    twelveUsersFromZero();
    olderUsers();
    fieldNeedsFromUpTo();
    fieldAndPondAtFirst();
    hourOfTheDay();
    supplyAtFirst();
    supplyOfEachHour();
    supplyIsOfTheHourOfTheDay();
    contentAboveCapacity();
    Check.finish();
  }

  /** A user with a right to 60 units whose field needs so much in each hour. */
  private static int addUser(IrrigationDistrict d, int ditch, int need) {
    int user = d.addUser(ditch, 1900, 60);
    d.setField(user, need, 0, 24);
    return user;
  }

  /** "There are 1 to 10 ditches". */
  private static void oneToTenDitches() {
    IrrigationDistrict d = new IrrigationDistrict();
    Check.due("2: one ditch at first", d.ditches(), 1);
    for (int number = 1; number <= 9; number++) {
      Check.due("2: its number", d.addDitch(0, 9, 0), number);
      Check.due("11: so many", d.ditches(), number + 1);
    }
    Check.due("2: no eleventh one", d.addDitch(0, 9, 0), FULL);
    Check.due("11: ten", d.ditches(), 10);
    Check.due("17: the last one is there", d.inflow(9), 0);
    Check.due("17: and none behind it", d.inflow(10), BAD_INDEX);
  }

  /** "each other ditch leads from another one, its parent, which has a lower number". */
  private static void parentHasLowerNumber() {
    IrrigationDistrict d = new IrrigationDistrict();
    for (int number = 1; number < 10; number++) {
      Check.due("2: not from itself", d.addDitch(number, 60, 0), BAD_INDEX);
      Check.due("2: not from a later one", d.addDitch(number + 1, 60, 0), BAD_INDEX);
      Check.due("2: from the one before", d.addDitch(number - 1, 60, 0), number);
    }
    addUser(d, 9, 1);
    for (int ditch = 0; ditch < 10; ditch++) {
      Check.due("17: the water goes through all of them", d.inflow(ditch), 1);
    }
    IrrigationDistrict star = new IrrigationDistrict();
    for (int number = 1; number < 10; number++) {
      star.addDitch(0, 60, 0);
    }
    addUser(star, 9, 1);
    for (int ditch = 0; ditch < 10; ditch++) {
      Check.due("17: only through its own and ditch 0", star.inflow(ditch), ditch == 0 || ditch == 9 ? 1 : 0);
    }
  }

  /** "Each ditch has a gate at its beginning, which lets at most so many units in each hour into the ditch". */
  private static void gateLetsInAtMost() {
    for (int gate : new int[] {1, 2, 59, 60}) {
      IrrigationDistrict d = new IrrigationDistrict();
      d.addDitch(0, gate, 0);
      addUser(d, 1, gate);
      Check.due("16: all that the gate lets in", d.gets(0), gate);
      Check.due("20: and that is all it asks for", d.limit(0), IrrigationDistrict.NOT_POSSIBLE);
      if (gate < 60) {
        d.setField(0, gate + 1, 0, 24);
        Check.due("16: not one more", d.gets(0), gate);
        Check.due("17: not one more", d.inflow(1), gate);
        Check.due("20: by its gate", d.limit(0), 1);
      }
    }
    IrrigationDistrict wide = new IrrigationDistrict();
    wide.setDitch(0, 200, 0);
    wide.setSupply(0, 24, 200);
    for (int i = 0; i < 4; i++) {
      addUser(wide, 0, i < 3 ? 60 : 20);
    }
    Check.due("17: the widest gate", wide.inflow(0), 200);
    Check.due("16: the last one has all of its 20", wide.gets(3), 20);
    wide.setDitch(0, 199, 0);
    Check.due("17: one less", wide.inflow(0), 199);
    Check.due("16: and one less for the last one", wide.gets(3), 19);
  }

  /** Rounded up by counting, and not by the ways of the class. */
  private static int lost(int units, int loss) {
    int lost = 0;
    while (100 * lost < units * loss) {
      lost++;
    }
    return lost;
  }

  private static int smallestInflow(int units, int loss) {
    int inflow = 0;
    while (inflow - lost(inflow, loss) < units) {
      inflow++;
    }
    return inflow;
  }

  /** "x * loss / 100 of them, rounded up to a whole number, are lost, and the others are passed on". */
  private static void lossesOfAllGates() {
    for (int loss = 0; loss <= 50; loss++) {
      for (int gate = 1; gate <= 200; gate++) {
        IrrigationDistrict d = new IrrigationDistrict();
        d.setDitch(0, gate, loss);
        d.setSupply(0, 1, 200);
        for (int i = 0; i < 4; i++) {
          addUser(d, 0, 60);
        }
        int passed = gate - lost(gate, loss);
        int inflow = smallestInflow(passed, loss);
        String what = " with the gate " + gate + " and the loss " + loss;
        Check.due("16: all users" + what, d.gets(0) + d.gets(1) + d.gets(2) + d.gets(3), passed);
        Check.due("17: inflow" + what, d.inflow(0), inflow);
        Check.due("18: loss" + what, d.loses(0), inflow - passed);
      }
    }
  }

  /** "the smallest x with which it passes on y units". */
  private static void smallestInflowsOfAllUnits() {
    for (int loss = 0; loss <= 50; loss++) {
      for (int units = 0; units <= 60; units++) {
        IrrigationDistrict d = new IrrigationDistrict();
        d.setDitch(0, 200, 0);
        d.addDitch(0, 200, loss);
        d.setSupply(0, 24, 200);
        addUser(d, 1, units);
        int inflow = smallestInflow(units, loss);
        String what = " for " + units + " units with the loss " + loss;
        Check.due("17: inflow" + what, d.inflow(1), inflow);
        Check.due("18: loss" + what, d.loses(1), lost(inflow, loss));
        Check.due("21: least supply" + what, d.leastSupply(0), inflow);
        // The least gate is 1, also for nothing.
        Check.due("22: useful gate" + what, d.usefulGate(1), Math.max(inflow, 1));
      }
    }
  }

  /** "(0 for y = 0)": a ditch that passes nothing on has no inflow and no loss. */
  private static void nothingForNothing() {
    IrrigationDistrict d = new IrrigationDistrict();
    d.setDitch(0, 100, 50);
    d.addDitch(0, 100, 50);
    addUser(d, 1, 0);
    for (int ditch = 0; ditch < 2; ditch++) {
      Check.due("17: nobody asks", d.inflow(ditch), 0);
      Check.due("18: nobody asks", d.loses(ditch), 0);
    }
    d.advance(24);
    Check.due("24: nothing flowed", d.account(0), 0);
    Check.due("24: all stayed", d.account(1), 2400);
    Check.due("24: nothing is lost", d.account(2), 0);
  }

  /** "Ditch 0 has the gate 100 and the loss 0 at first." */
  private static void ditch0AtFirst() {
    IrrigationDistrict d = new IrrigationDistrict();
    d.setSupply(0, 24, 200);
    addUser(d, 0, 60);
    addUser(d, 0, 40);
    Check.due("16: a hundred pass", d.gets(0) + d.gets(1), 100);
    Check.due("18: without a loss", d.loses(0), 0);
    d.setField(1, 41, 0, 24);
    Check.due("16: and not one more", d.gets(0) + d.gets(1), 100);
    Check.due("20: by the gate", d.limit(1), 0);
    Check.due("3: the gate", d.setDitch(0, 100, 0), 100);
  }

  /** Half of it is lost in each: from ditch 0 to ditch 6 one unit needs 128, and from ditch 7 on too many. */
  private static void tenLossyDitchesInARow() {
    IrrigationDistrict d = new IrrigationDistrict();
    d.setDitch(0, 200, 50);
    for (int number = 1; number < 10; number++) {
      d.addDitch(number - 1, 200, 50);
    }
    addUser(d, 6, 1);
    addUser(d, 7, 1);
    addUser(d, 9, 1);
    d.setSupply(0, 24, 128);
    Check.due("16: just enough", d.gets(0), 1);
    Check.due("17: the river", d.inflow(0), 128);
    Check.due("17: its ditch", d.inflow(6), 2);
    Check.due("18: all but one are lost", d.loses(0) + d.loses(1) + d.loses(2) + d.loses(3), 64 + 32 + 16 + 8);
    Check.due("21: no less", d.leastSupply(0), 128);
    d.setSupply(0, 24, 127);
    Check.due("16: not enough", d.gets(0), 0);
    Check.due("20: by the supply", d.limit(0), NONE);
    Check.due("20: 256 by the gate of ditch 0", d.limit(1), 0);
    // From ditch 9 up ditch 2 has 256, ditch 3 has 128.
    Check.due("20: 256 by the gate of ditch 2", d.limit(2), 2);
    Check.due("21: with no supply", d.leastSupply(2), NONE);
  }

  /** "There are at most 12 users, numbered from 0." */
  private static void twelveUsersFromZero() {
    IrrigationDistrict d = new IrrigationDistrict();
    for (int number = 0; number < 12; number++) {
      Check.due("15: not there yet", d.asks(number), BAD_INDEX);
      Check.due("4: its number", d.addUser(0, 2099 - number, number), number);
      d.setField(number, 60, 0, 24);
      Check.due("15: its right", d.asks(number), number);
      Check.due("12: so many", d.users(), number + 1);
    }
    Check.due("4: no thirteenth one", d.addUser(0, 1800, 60), FULL);
    Check.due("12: twelve", d.users(), 12);
    for (int rank = 0; rank < 12; rank++) {
      Check.due("13: the last one is the oldest", d.userByAge(rank), 11 - rank);
    }
  }

  /** "the one with the earlier year is older; with the same year, the one with the lower number". */
  private static void olderUsers() {
    IrrigationDistrict d = new IrrigationDistrict();
    for (int number = 0; number < 12; number++) {
      d.addUser(0, number % 2 == 0 ? 1801 : 1800, 1);
    }
    int[] due = {1, 3, 5, 7, 9, 11, 0, 2, 4, 6, 8, 10};
    for (int rank = 0; rank < 12; rank++) {
      Check.due("13: by one year, then by the number", d.userByAge(rank), due[rank]);
    }
    IrrigationDistrict same = new IrrigationDistrict();
    for (int number = 0; number < 12; number++) {
      same.addUser(0, 2099, 1);
      Check.due("13: the new one is the youngest", same.userByAge(number), number);
      Check.due("13: and there is none behind it", same.userByAge(number + 1), BAD_INDEX);
    }
    Check.due("13: the first one is the oldest", same.userByAge(0), 0);
  }

  /** "needs a number of units in each hour of the day from one hour up to, but without, another one, and none in others". */
  private static void fieldNeedsFromUpTo() {
    for (int from = 0; from <= 23; from++) {
      for (int to = from + 1; to <= 24; to++) {
        IrrigationDistrict d = new IrrigationDistrict();
        d.addUser(0, 1900, 60);
        d.setField(0, 7, from, to);
        for (int time = 0; time < 50; time++) {
          int hour = time % 24;
          Check.due("5: at " + time + " of " + from + " to " + to, d.asks(0), from <= hour && hour < to ? 7 : 0);
          d.advance(1);
        }
      }
    }
  }

  /** "At first a field needs nothing, and a pond has the capacity, the content and the leak 0." */
  private static void fieldAndPondAtFirst() {
    IrrigationDistrict d = new IrrigationDistrict();
    d.addUser(0, 1900, 60);
    for (int hour = 0; hour < 24; hour++) {
      Check.due("15: nothing is needed", d.asks(0), 0);
      d.advance(1);
    }
    Check.due("24: and none missed", d.account(6), 0);
    Check.due("25: content", d.pond(0), 0);
    Check.due("28: capacity", d.hoursToFull(0), 0);
    Check.due("5: need", d.setField(0, 60, 0, 24), 0);
    d.setSupply(0, 24, 0);
    Check.due("23: there is nothing in the pond", d.advance(1), 60);
    Check.due("24: and nothing leaks", d.account(5), 0);
    Check.due("6: content", d.setPond(0, 0, 0), 0);
    Check.due("7: turn", d.setTurn(0, 0), 0);
  }

  /** "the hour of the day is its remainder by 24". */
  private static void hourOfTheDay() {
    IrrigationDistrict d = new IrrigationDistrict();
    d.addUser(0, 1900, 60);
    d.setField(0, 5, 23, 24);
    d.advance(22);
    Check.due("15: 22", d.asks(0), 0);
    d.advance(1);
    Check.due("15: 23", d.asks(0), 5);
    d.advance(1);
    Check.due("15: 24 is 0", d.asks(0), 0);
    d.setField(0, 6, 0, 1);
    Check.due("15: 24 is 0, indeed", d.asks(0), 6);
    d.advance(23);
    Check.due("15: 47 is 23", d.asks(0), 0);
    d.advance(1);
    Check.due("15: 48 is 0", d.asks(0), 6);
    Check.due("14: but the time goes on", d.time(), 48);
    for (int day = 0; day < 200; day++) {
      d.advance(48);
    }
    Check.due("15: 9648 is 0", d.asks(0), 6);
    Check.due("14: and goes on", d.time(), 9648);
  }

  /** "at first 100 units". */
  private static void supplyAtFirst() {
    IrrigationDistrict d = new IrrigationDistrict();
    d.setDitch(0, 200, 0);
    addUser(d, 0, 60);
    addUser(d, 0, 60);
    for (int hour = 0; hour < 24; hour++) {
      Check.due("17: hour " + hour, d.inflow(0), 100);
      Check.due("20: by the supply", d.limit(1), NONE);
      Check.due("8: hour " + hour, d.setSupply(hour, hour + 1, 100), 100);
      d.advance(1);
    }
  }

  /** "from: 0 to 23, to: from + 1 to 24": the hours from the first one up to, but without, the second one. */
  private static void supplyOfEachHour() {
    for (int from = 0; from <= 23; from++) {
      for (int to = from + 1; to <= 24; to++) {
        IrrigationDistrict d = new IrrigationDistrict();
        Check.due("8: the previous one", d.setSupply(from, to, 0), 100);
        for (int hour = 0; hour < 24; hour++) {
          boolean within = from <= hour && hour < to;
          Check.due("8: " + hour + " of " + from + " to " + to, d.setSupply(hour, hour + 1, 200), within ? 0 : 100);
        }
        Check.due("8: all are set", d.setSupply(0, 24, 1), 200);
        Check.due("8: the last one, too", d.setSupply(23, 24, 1), 1);
      }
    }
  }

  /** "The river offers a supply for each hour of the day": of the last hour it is 23's, then 0's again. */
  private static void supplyIsOfTheHourOfTheDay() {
    IrrigationDistrict d = new IrrigationDistrict();
    d.setDitch(0, 200, 0);
    for (int i = 0; i < 4; i++) {
      addUser(d, 0, 60);
    }
    for (int hour = 0; hour < 24; hour++) {
      d.setSupply(hour, hour + 1, 150 + hour);
    }
    for (int time = 0; time < 50; time++) {
      Check.due("17: at " + time, d.inflow(0), 150 + time % 24);
      d.advance(1);
    }
    Check.due("24: two days and two hours", d.account(0), 2 * (24 * 150 + 276) + 150 + 151);
    d.setSupply(2, 3, 0);
    Check.due("17: no supply", d.inflow(0), 0);
    d.setSupply(2, 3, 200);
    Check.due("17: the greatest one", d.inflow(0), 200);
  }

  /** "A content above the capacity becomes the capacity (what is above it is in no account)." */
  private static void contentAboveCapacity() {
    IrrigationDistrict d = new IrrigationDistrict();
    d.addUser(0, 1900, 60);
    d.setPond(0, 500, 0);
    for (int hour = 0; hour < 8; hour++) {
      d.advance(1);
    }
    Check.due("25: eight times 60", d.pond(0), 480);
    d.advance(1);
    Check.due("25: the greatest content", d.pond(0), 500);
    Check.due("15: full", d.asks(0), 0);
    Check.due("6: a capacity of the content", d.setPond(0, 500, 20), 500);
    Check.due("6: one less", d.setPond(0, 499, 20), 499);
    Check.due("6: one more again", d.setPond(0, 500, 20), 499);
    Check.due("15: there is room for one", d.asks(0), 1);
    Check.due("6: none", d.setPond(0, 0, 20), 0);
    Check.due("6: nor then", d.setPond(0, 500, 0), 0);
    int[] due = {500, 400, 0, 500, 0, 0, 0};
    for (int what = 0; what < 7; what++) {
      Check.due("24: it is in no account", d.account(what), due[what]);
    }
  }
}
