/** Promises 1 to 13: a new object, and the setting of ditches, users, supply and rules. */
final class DitchesAndUsersTest {
  private static final int BAD_INDEX = IrrigationDistrict.BAD_INDEX;
  private static final int BAD_VALUE = IrrigationDistrict.BAD_VALUE;
  private static final int FULL = IrrigationDistrict.FULL;
  private static final int LEAST = Integer.MIN_VALUE;
  private static final int MOST = Integer.MAX_VALUE;

  private DitchesAndUsersTest() {
  }

  public static void main(String[] args) {
    newObject();
    addDitch();
    setDitch();
    addUser();
    setField();
    setPond();
    setTurn();
    setSupply();
    setRule();
    setFutile();
    counts();
    userByAge();
    errorsChangeNothing();
    Check.finish();
  }

  private static void newObject() {
    IrrigationDistrict d = new IrrigationDistrict();
    Check.due("1: ditches", d.ditches(), 1);
    Check.due("1: users", d.users(), 0);
    Check.due("1: time", d.time(), 0);
    for (int what = 0; what < 7; what++) {
      Check.due("1: account", d.account(what), 0);
    }
    Check.due("1: inflow", d.inflow(0), 0);
    Check.due("1: turn", d.turn(), IrrigationDistrict.NONE);
    Check.due("1: settle", d.settle(), 0);
    Check.due("1: no fault", d.faultPosition(), IrrigationDistrict.NONE);
    Check.due("1: no orders", d.read(), 0);
    Check.due("1: empty text", d.clearText(), 0);
    Check.due("1: empty slot 0", d.restore(0), IrrigationDistrict.NOT_POSSIBLE);
    Check.due("1: empty slot 1", d.restore(1), IrrigationDistrict.NOT_POSSIBLE);
    Check.due("1: rule", d.setRule(0), IrrigationDistrict.BY_AGE);
    Check.due("1: f", d.setFutile(30), 30);
    for (int hour = 0; hour < 24; hour++) {
      Check.due("1: supply", d.setSupply(hour, hour + 1, 100), 100);
    }
    Check.due("1: gate of ditch 0", d.setDitch(0, 200, 0), 100);
    Check.due("1: loss of ditch 0", lossOf(new IrrigationDistrict(), 0), 0);
  }

  /** What a ditch loses of 20 units that a user at it gets. */
  private static int lossOf(IrrigationDistrict d, int ditch) {
    int user = d.addUser(ditch, 1900, 20);
    d.setField(user, 20, 0, 24);
    return d.loses(ditch);
  }

  private static void addDitch() {
    IrrigationDistrict d = new IrrigationDistrict();
    Check.due("2: first", d.addDitch(0, 1, 0), 1);
    Check.due("2: greatest values", d.addDitch(1, 200, 50), 2);
    Check.due("2: no such parent", d.addDitch(3, 50, 10), BAD_INDEX);
    Check.due("2: itself as parent", d.addDitch(d.ditches(), 50, 10), BAD_INDEX);
    Check.due("2: parent -1", d.addDitch(-1, 50, 10), BAD_INDEX);
    Check.due("2: extreme parents", d.addDitch(LEAST, 50, 10) + d.addDitch(MOST, 50, 10), 2 * BAD_INDEX);
    Check.due("2: parent before values", d.addDitch(3, 0, 51), BAD_INDEX);
    Check.due("2: gate 0", d.addDitch(0, 0, 10), BAD_VALUE);
    Check.due("2: gate 201", d.addDitch(0, 201, 10), BAD_VALUE);
    Check.due("2: loss -1", d.addDitch(0, 50, -1), BAD_VALUE);
    Check.due("2: loss 51", d.addDitch(0, 50, 51), BAD_VALUE);
    for (int number = 3; number < 10; number++) {
      Check.due("2: number", d.addDitch(number - 1, 60, 5), number);
    }
    Check.due("2: full", d.addDitch(0, 60, 5), FULL);
    Check.due("2: value before full", d.addDitch(0, 0, 5), BAD_VALUE);
    Check.due("2: index before full", d.addDitch(10, 60, 5), BAD_INDEX);
    Check.due("2: still ten", d.ditches(), 10);
    IrrigationDistrict lossy = new IrrigationDistrict();
    lossy.addDitch(0, 90, 25);
    // 26 are needed to pass on 19, and 27 for 20, of which 7 (6.75) are lost.
    Check.due("2: its loss", lossOf(lossy, 1), 7);
    Check.due("2: its inflow", lossy.inflow(1), 27);
    Check.due("2: its gate", lossy.setDitch(1, 90, 25), 90);
  }

  private static void setDitch() {
    IrrigationDistrict d = new IrrigationDistrict();
    d.addDitch(0, 70, 0);
    Check.due("3: previous gate", d.setDitch(1, 200, 50), 70);
    Check.due("3: gate then", d.setDitch(1, 1, 0), 200);
    Check.due("3: the other one", d.setDitch(0, 33, 5), 100);
    Check.due("3: gate 1", d.setDitch(1, 60, 10), 1);
    Check.due("3: no such ditch", d.setDitch(2, 60, 10), BAD_INDEX);
    Check.due("3: ditch -1", d.setDitch(-1, 60, 10), BAD_INDEX);
    Check.due("3: index before values", d.setDitch(MOST, 0, -1), BAD_INDEX);
    Check.due("3: gate 0", d.setDitch(0, 0, 10), BAD_VALUE);
    Check.due("3: gate 201", d.setDitch(0, 201, 10), BAD_VALUE);
    Check.due("3: loss -1", d.setDitch(0, 60, -1), BAD_VALUE);
    Check.due("3: loss 51", d.setDitch(0, 60, 51), BAD_VALUE);
    Check.due("3: kept", d.setDitch(0, 60, 0), 33);
    // 22 pass on 19, 23 pass on 20.
    Check.due("3: loss is set", lossOf(d, 1), 3);
  }

  private static void addUser() {
    IrrigationDistrict d = new IrrigationDistrict();
    d.addDitch(0, 50, 0);
    Check.due("4: first", d.addUser(1, 1800, 0), 0);
    Check.due("4: second", d.addUser(0, 2099, 60), 1);
    Check.due("4: no such ditch", d.addUser(2, 1900, 20), BAD_INDEX);
    Check.due("4: ditch -1", d.addUser(-1, 1900, 20), BAD_INDEX);
    Check.due("4: index before values", d.addUser(2, 1799, 61), BAD_INDEX);
    Check.due("4: year 1799", d.addUser(0, 1799, 20), BAD_VALUE);
    Check.due("4: year 2100", d.addUser(0, 2100, 20), BAD_VALUE);
    Check.due("4: right -1", d.addUser(0, 1900, -1), BAD_VALUE);
    Check.due("4: right 61", d.addUser(0, 1900, 61), BAD_VALUE);
    for (int number = 2; number < 12; number++) {
      Check.due("4: number", d.addUser(0, 1900, 10), number);
    }
    Check.due("4: full", d.addUser(0, 1900, 10), FULL);
    Check.due("4: value before full", d.addUser(0, 1900, 61), BAD_VALUE);
    Check.due("4: index before full", d.addUser(5, 1900, 10), BAD_INDEX);
    Check.due("4: still twelve", d.users(), 12);
    Check.due("4: needs nothing at first", d.asks(1), 0);
    Check.due("4: pond at first", d.pond(1), 0);
    Check.due("4: no capacity at first", d.hoursToFull(1), 0);
    Check.due("4: not shut at first", d.isShut(1), 0);
    Check.due("4: turn at first", d.setTurn(1, 0), 0);
    d.setField(1, 60, 0, 24);
    Check.due("4: right 60", d.asks(1), 60);
    d.setField(0, 60, 0, 24);
    Check.due("4: right 0", d.asks(0), 0);
    d.setField(2, 60, 0, 24);
    Check.due("4: right 10", d.asks(2), 10);
    Check.due("4: at its ditch", d.inflow(1), 0);
  }

  private static void setField() {
    IrrigationDistrict d = withUsers(1);
    Check.due("5: at first", d.setField(0, 20, 2, 4), 0);
    Check.due("5: hour 0", d.asks(0), 0);
    d.advance(2);
    Check.due("5: hour 2", d.asks(0), 20);
    d.advance(1);
    Check.due("5: hour 3", d.asks(0), 20);
    d.advance(1);
    Check.due("5: hour 4", d.asks(0), 0);
    d.advance(22);
    Check.due("5: hour 26", d.asks(0), 20);
    Check.due("5: previous need", d.setField(0, 60, 23, 24), 20);
    d.advance(21);
    Check.due("5: hour 23", d.asks(0), 60);
    Check.due("5: need 0", d.setField(0, 0, 0, 1), 60);
    Check.due("5: previous 0", d.setField(0, 1, 0, 24), 0);
    Check.due("5: no such user", d.setField(1, 20, 2, 4), BAD_INDEX);
    Check.due("5: user -1", d.setField(-1, 20, 2, 4), BAD_INDEX);
    Check.due("5: index before values", d.setField(1, 61, 24, 24), BAD_INDEX);
    Check.due("5: need -1", d.setField(0, -1, 2, 4), BAD_VALUE);
    Check.due("5: need 61", d.setField(0, 61, 2, 4), BAD_VALUE);
    Check.due("5: from -1", d.setField(0, 20, -1, 4), BAD_VALUE);
    Check.due("5: from 24", d.setField(0, 20, 24, 25), BAD_VALUE);
    Check.due("5: to = from", d.setField(0, 20, 4, 4), BAD_VALUE);
    Check.due("5: to < from", d.setField(0, 20, 4, 3), BAD_VALUE);
    Check.due("5: to 25", d.setField(0, 20, 4, 25), BAD_VALUE);
    Check.due("5: extreme from", d.setField(0, 20, MOST, LEAST), BAD_VALUE);
    Check.due("5: extreme from and to", d.setField(0, 20, MOST, MOST), BAD_VALUE);
    Check.due("5: kept", d.setField(0, 1, 0, 24), 1);
  }

  private static void setPond() {
    IrrigationDistrict d = withUsers(1);
    Check.due("6: at first", d.setPond(0, 500, 0), 0);
    Check.due("6: room is asked for", d.asks(0), 60);
    d.advance(1);
    Check.due("6: content", d.setPond(0, 500, 20), 60);
    d.advance(1);
    Check.due("6: leaks", d.setPond(0, 100, 20), 100);
    Check.due("6: content is cut", d.setPond(0, 70, 20), 70);
    Check.due("6: what is cut is gone", d.setPond(0, 500, 0), 70);
    Check.due("6: leaked so far", d.account(5), 20);
    Check.due("6: capacity 0", d.setPond(0, 0, 0), 0);
    Check.due("6: and nothing leaked", d.account(5), 20);
    Check.due("6: no room", d.asks(0), 0);
    Check.due("6: no such user", d.setPond(1, 10, 0), BAD_INDEX);
    Check.due("6: user -1", d.setPond(-1, 10, 0), BAD_INDEX);
    Check.due("6: index before values", d.setPond(1, -1, 21), BAD_INDEX);
    Check.due("6: capacity -1", d.setPond(0, -1, 0), BAD_VALUE);
    Check.due("6: capacity 501", d.setPond(0, 501, 0), BAD_VALUE);
    Check.due("6: leak -1", d.setPond(0, 10, -1), BAD_VALUE);
    Check.due("6: leak 21", d.setPond(0, 10, 21), BAD_VALUE);
  }

  private static void setTurn() {
    IrrigationDistrict d = withUsers(2);
    Check.due("7: at first", d.setTurn(0, 24), 0);
    Check.due("7: previous", d.setTurn(0, 3), 24);
    Check.due("7: of the other one", d.setTurn(1, 5), 0);
    Check.due("7: no such user", d.setTurn(2, 3), BAD_INDEX);
    Check.due("7: user -1", d.setTurn(-1, 3), BAD_INDEX);
    Check.due("7: index before value", d.setTurn(2, 25), BAD_INDEX);
    Check.due("7: hours -1", d.setTurn(0, -1), BAD_VALUE);
    Check.due("7: hours 25", d.setTurn(0, 25), BAD_VALUE);
    Check.due("7: kept", d.setTurn(0, 0), 3);
    Check.due("7: kept, too", d.setTurn(1, 0), 5);
  }

  private static void setSupply() {
    IrrigationDistrict d = new IrrigationDistrict();
    Check.due("8: at first", d.setSupply(6, 18, 0), 100);
    Check.due("8: before from", d.setSupply(5, 6, 11), 100);
    Check.due("8: from", d.setSupply(6, 7, 12), 0);
    Check.due("8: before to", d.setSupply(17, 18, 13), 0);
    Check.due("8: to", d.setSupply(18, 19, 14), 100);
    Check.due("8: previous of from alone", d.setSupply(17, 19, 15), 13);
    Check.due("8: all", d.setSupply(0, 24, 200), 100);
    Check.due("8: last hour", d.setSupply(23, 24, 1), 200);
    Check.due("8: from -1", d.setSupply(-1, 5, 10), BAD_VALUE);
    Check.due("8: from 24", d.setSupply(24, 25, 10), BAD_VALUE);
    Check.due("8: to = from", d.setSupply(5, 5, 10), BAD_VALUE);
    Check.due("8: to < from", d.setSupply(5, 0, 10), BAD_VALUE);
    Check.due("8: to 25", d.setSupply(5, 25, 10), BAD_VALUE);
    Check.due("8: units -1", d.setSupply(5, 6, -1), BAD_VALUE);
    Check.due("8: units 201", d.setSupply(5, 6, 201), BAD_VALUE);
    Check.due("8: extremes", d.setSupply(LEAST, MOST, 5), BAD_VALUE);
    Check.due("8: other extremes", d.setSupply(MOST, LEAST, 5), BAD_VALUE);
    Check.due("8: kept", d.setSupply(5, 6, 10), 200);
    Check.due("8: river", d.advance(1) + d.account(1), 200);
  }

  private static void setRule() {
    IrrigationDistrict d = new IrrigationDistrict();
    Check.due("9: at first", d.setRule(2), 0);
    Check.due("9: then", d.setRule(1), 2);
    Check.due("9: rule -1", d.setRule(-1), BAD_VALUE);
    Check.due("9: rule 3", d.setRule(3), BAD_VALUE);
    Check.due("9: kept", d.setRule(0), 1);
    Check.due("9: back", d.setRule(0), 0);
  }

  private static void setFutile() {
    IrrigationDistrict d = new IrrigationDistrict();
    Check.due("10: at first", d.setFutile(0), 30);
    Check.due("10: 0", d.setFutile(100), 0);
    Check.due("10: -1", d.setFutile(-1), BAD_VALUE);
    Check.due("10: 101", d.setFutile(101), BAD_VALUE);
    Check.due("10: kept", d.setFutile(7), 100);
  }

  private static void counts() {
    IrrigationDistrict d = new IrrigationDistrict();
    for (int count = 1; count <= 10; count++) {
      Check.due("11: ditches", d.ditches(), count);
      d.addDitch(0, 9, 9);
    }
    Check.due("11: ten at most", d.ditches(), 10);
    for (int count = 0; count <= 12; count++) {
      Check.due("12: users", d.users(), count);
      d.addUser(9, 1999, 9);
    }
    Check.due("12: twelve at most", d.users(), 12);
    Check.due("11: still ten", d.ditches(), 10);
  }

  private static void userByAge() {
    IrrigationDistrict d = new IrrigationDistrict();
    Check.due("13: nobody", d.userByAge(0), BAD_INDEX);
    int[] years = {1950, 1850, 1950, 1800, 2099, 1850};
    for (int year : years) {
      d.addUser(0, year, 1);
    }
    int[] due = {3, 1, 5, 0, 2, 4};
    for (int rank = 0; rank < due.length; rank++) {
      Check.due("13: rank " + rank, d.userByAge(rank), due[rank]);
    }
    Check.due("13: rank -1", d.userByAge(-1), BAD_INDEX);
    Check.due("13: rank 6", d.userByAge(6), BAD_INDEX);
    Check.due("13: extreme ranks", d.userByAge(LEAST) + d.userByAge(MOST), 2 * BAD_INDEX);
  }

  private static IrrigationDistrict withUsers(int count) {
    IrrigationDistrict d = new IrrigationDistrict();
    for (int i = 0; i < count; i++) {
      d.addUser(0, 1900, 60);
    }
    return d;
  }

  private static IrrigationDistrict fullDistrict() {
    IrrigationDistrict d = withUsers(12);
    for (int i = 1; i < 10; i++) {
      d.addDitch(i - 1, 50 + i, i);
    }
    d.setField(0, 20, 3, 9);
    d.setPond(1, 50, 2);
    d.setTurn(2, 4);
    d.setRule(1);
    d.advance(3);
    return d;
  }

  private static void errorsChangeNothing() {
    Check.changesNothing("2 to 10: errors", DitchesAndUsersTest::fullDistrict, d -> {
      int sum = d.addDitch(10, 50, 0) + d.addDitch(0, 0, 0) + d.addDitch(0, 50, 0);
      sum += d.setDitch(10, 7, 7) + d.setDitch(3, 201, 7) + d.setDitch(3, 7, 51);
      sum += d.addUser(10, 1900, 5) + d.addUser(0, 1900, 61) + d.addUser(0, 1900, 5);
      sum += d.setField(12, 7, 1, 2) + d.setField(0, 61, 1, 2) + d.setField(0, 7, 2, 2);
      sum += d.setPond(12, 7, 7) + d.setPond(1, 501, 7) + d.setPond(1, 0, 21);
      sum += d.setTurn(12, 7) + d.setTurn(2, 25) + d.setSupply(0, 25, 7) + d.setSupply(0, 24, 201);
      sum += d.setRule(3) + d.setFutile(101) + d.userByAge(12);
      Check.holds("2 to 10: all are errors", sum <= 22 * BAD_INDEX);
    });
  }
}
