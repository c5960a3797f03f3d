/** Promises 23 to 28: the passing of time, the account, and forecasts. */
final class TimeTest {
  private static final int BAD_INDEX = IrrigationDistrict.BAD_INDEX;
  private static final int BAD_VALUE = IrrigationDistrict.BAD_VALUE;
  private static final int NONE = IrrigationDistrict.NONE;

  private TimeTest() {
  }

  public static void main(String[] args) {
    advance();
    longAdvance();
    account();
    accountOfDitch0();
    pond();
    missed();
    willMiss();
    hoursToFull();
    forecastsWithShutUsers();
    nothingChanges();
    Check.finish();
  }

  private static IrrigationDistrict withUser(int right, int need, int from, int to) {
    IrrigationDistrict d = new IrrigationDistrict();
    d.addUser(0, 1900, right);
    d.setField(0, need, from, to);
    return d;
  }

  private static void advance() {
    IrrigationDistrict d = withUser(20, 35, 1, 3);
    Check.due("23: nothing needed", d.advance(1), 0);
    Check.due("23: 15 an hour", d.advance(1), 15);
    Check.due("23: one hour of need, one without", d.advance(2), 15);
    Check.due("23: hours alone, not all before", d.advance(20), 0);
    Check.due("23: the next day", d.advance(24), 30);
    Check.due("14: time", d.time(), 48);
    Check.due("23: 48 hours", d.advance(48), 60);
    Check.due("23: hours 0", d.advance(0), BAD_VALUE);
    Check.due("23: hours 49", d.advance(49), BAD_VALUE);
    Check.due("23: hours -1", d.advance(-1), BAD_VALUE);
    Check.due("23: extreme hours", d.advance(Integer.MAX_VALUE), BAD_VALUE);
    Check.due("23: least hours", d.advance(Integer.MIN_VALUE), BAD_VALUE);
    Check.due("14: time stays", d.time(), 96);
    d.addUser(0, 1950, 10);
    d.setField(1, 12, 0, 24);
    Check.due("23: of all fields", d.advance(24), 30 + 48);
  }

  private static void longAdvance() {
    IrrigationDistrict d = withUser(50, 60, 0, 24);
    for (int i = 0; i < 500; i++) {
      d.advance(48);
    }
    Check.due("14: long time", d.time(), 24000);
    Check.due("24: long account", d.account(0), 24000 * 50);
    Check.due("26: long missing", d.missed(0), 24000 * 10);
  }

  private static void account() {
    IrrigationDistrict d = withUser(60, 20, 0, 1);
    d.addDitch(0, 40, 10);
    d.addUser(1, 1950, 60);
    d.setField(1, 40, 0, 24);
    d.setPond(0, 30, 4);
    d.setSupply(0, 1, 100);
    d.setSupply(1, 2, 30);
    // Hour 0: user 0 gets 50; user 1 gets 36, the inflow 40 less 4.
    Check.due("23: hour 0", d.advance(1), 4);
    checkAccount(d, new int[] {90, 10, 4, 86, 20 + 36, 4, 4});
    // Hour 1: user 0 has 26, and gets 4; 26 are left for ditch 1, which passes on 23.
    Check.due("23: hour 1", d.advance(1), 17);
    checkAccount(d, new int[] {90 + 30, 10, 4 + 3, 86 + 27, 56 + 23, 8, 4 + 17});
    Check.due("24: -1", d.account(-1), BAD_VALUE);
    Check.due("24: 7", d.account(7), BAD_VALUE);
    Check.due("24: extreme", d.account(Integer.MIN_VALUE), BAD_VALUE);
    Check.due("24: cut ponds", d.setPond(0, 0, 0), 0);
    checkAccount(d, new int[] {120, 10, 7, 113, 79, 8, 21});
  }

  private static void accountOfDitch0() {
    IrrigationDistrict d = withUser(60, 30, 0, 24);
    d.setDitch(0, 100, 10);
    d.advance(2);
    // 30 units need 34, and the loss is 4 (3.4).
    checkAccount(d, new int[] {68, 132, 8, 60, 60, 0, 0});
  }

  private static void checkAccount(IrrigationDistrict d, int[] due) {
    for (int what = 0; what < due.length; what++) {
      Check.due("24: hour " + d.time() + ", account " + what, d.account(what), due[what]);
    }
  }

  private static void pond() {
    IrrigationDistrict d = withUser(30, 10, 2, 24);
    d.setPond(0, 45, 20);
    d.advance(1);
    Check.due("25: 30 less 20", d.pond(0), 10);
    d.advance(1);
    Check.due("25: 40 less 20", d.pond(0), 20);
    d.setSupply(0, 24, 3);
    d.advance(1);
    // 23 units, of which the field uses 10 before the pond leaks.
    Check.due("25: 13 leak whole", d.pond(0), 0);
    Check.due("24: 13 leaked", d.account(5), 53);
    d.setPond(0, 45, 0);
    d.advance(1);
    Check.due("25: the field has all", d.pond(0), 0);
    Check.due("26: and misses some", d.missed(0), 7);
    d.setSupply(0, 24, 200);
    d.advance(3);
    Check.due("25: full", d.pond(0), 45);
    d.setSupply(0, 24, 0);
    d.advance(4);
    Check.due("25: the field takes from it", d.pond(0), 5);
    d.advance(1);
    Check.due("25: the last of it", d.pond(0), 0);
    Check.due("26: five missing", d.missed(0), 12);
    Check.due("25: no such user", d.pond(1), BAD_INDEX);
    Check.due("25: user -1", d.pond(-1), BAD_INDEX);
  }

  private static void missed() {
    IrrigationDistrict d = withUser(20, 35, 1, 3);
    d.addUser(0, 1950, 20);
    d.setField(1, 25, 0, 24);
    Check.due("26: at first", d.missed(0), 0);
    d.advance(2);
    Check.due("26: one hour", d.missed(0), 15);
    Check.due("26: the other one", d.missed(1), 10);
    d.advance(48);
    Check.due("26: further hours", d.missed(0), 75);
    Check.due("26: of the other one", d.missed(1), 250);
    Check.due("24: of both", d.account(6), 325);
    Check.due("26: no such user", d.missed(2), BAD_INDEX);
    Check.due("26: user -1", d.missed(-1), BAD_INDEX);
  }

  private static void willMiss() {
    IrrigationDistrict d = withUser(20, 35, 1, 3);
    d.addUser(0, 1950, 20);
    d.setField(1, 25, 0, 24);
    Check.due("27: this hour", d.willMiss(0, 1), 0);
    Check.due("27: two hours", d.willMiss(0, 2), 15);
    Check.due("27: 48 hours", d.willMiss(0, 48), 60);
    Check.due("27: of one alone", d.willMiss(1, 48), 240);
    d.advance(2);
    Check.due("27: what was missed does not count", d.willMiss(0, 1), 15);
    Check.due("27: then nothing", d.willMiss(0, 23) - d.willMiss(0, 1), 0);
    Check.due("27: no such user", d.willMiss(2, 5), BAD_INDEX);
    Check.due("27: user -1", d.willMiss(-1, 5), BAD_INDEX);
    Check.due("27: index before value", d.willMiss(2, 0), BAD_INDEX);
    Check.due("27: hours 0", d.willMiss(0, 0), BAD_VALUE);
    Check.due("27: hours 49", d.willMiss(0, 49), BAD_VALUE);
    Check.due("27: extreme hours", d.willMiss(0, Integer.MIN_VALUE), BAD_VALUE);
    Check.due("14: time stays", d.time(), 2);
    Check.due("26: missed stays", d.missed(0), 15);
  }

  private static void hoursToFull() {
    IrrigationDistrict d = withUser(10, 5, 0, 2);
    Check.due("28: without capacity", d.hoursToFull(0), 0);
    d.setPond(0, 25, 0);
    // 5, 10, 20, 25.
    Check.due("28: four hours", d.hoursToFull(0), 4);
    d.advance(3);
    Check.due("28: the last of them", d.hoursToFull(0), 1);
    d.advance(1);
    Check.due("28: full", d.hoursToFull(0), 0);
    d.setPond(0, 25, 1);
    Check.due("28: full already, though it leaks", d.hoursToFull(0), 0);
    d.advance(1);
    Check.due("28: after what leaks it is never full", d.hoursToFull(0), NONE);
    IrrigationDistrict slow = withUser(1, 0, 0, 1);
    slow.setPond(0, 48, 0);
    Check.due("28: just 48 hours", slow.hoursToFull(0), 48);
    slow.setPond(0, 49, 0);
    Check.due("28: 49 hours", slow.hoursToFull(0), NONE);
    slow.advance(1);
    Check.due("28: 48 hours then", slow.hoursToFull(0), 48);
    Check.due("28: content stays", slow.pond(0), 1);
    Check.due("28: time stays", slow.time(), 1);
    Check.due("28: no such user", slow.hoursToFull(1), BAD_INDEX);
    Check.due("28: user -1", slow.hoursToFull(-1), BAD_INDEX);
    IrrigationDistrict ebb = withUser(10, 20, 12, 24);
    ebb.setPond(0, 30, 0);
    Check.due("28: full before the field drains it", ebb.hoursToFull(0), 3);
    ebb.advance(12);
    Check.due("28: still full", ebb.hoursToFull(0), 0);
    ebb.advance(12);
    Check.due("28: drained", ebb.pond(0), 0);
  }

  private static void forecastsWithShutUsers() {
    IrrigationDistrict d = withUser(60, 60, 0, 24);
    d.addUser(0, 1950, 60);
    d.setField(1, 60, 0, 24);
    d.setRule(2);
    d.setSupply(0, 24, 60);
    Check.due("31: one is shut off", d.settle(), 1);
    Check.due("27: shut off in this hour", d.willMiss(1, 1), 60);
    Check.due("27: and not in the next one", d.willMiss(1, 2), 90);
    Check.due("27: the other one", d.willMiss(0, 2), 30);
    Check.due("32: still shut off", d.isShut(1), 1);
    Check.due("23: the hour", d.advance(1), 60);
    Check.due("26: of the one", d.missed(1), 60);
    Check.due("32: no longer", d.isShut(1), 0);
  }

  private static IrrigationDistrict someDistrict() {
    IrrigationDistrict d = withUser(30, 25, 3, 20);
    d.addUser(0, 1850, 50);
    d.setField(1, 60, 0, 24);
    d.setPond(0, 100, 3);
    d.setPond(1, 20, 3);
    d.setSupply(0, 24, 60);
    d.advance(5);
    d.save(1);
    return d;
  }

  private static void nothingChanges() {
    Check.changesNothing("23 to 28: errors and questions", TimeTest::someDistrict, d -> {
      int errors = d.advance(0) + d.advance(49) + d.account(7) + d.pond(2) + d.missed(2);
      errors += d.willMiss(2, 1) + d.willMiss(0, 49) + d.hoursToFull(2);
      Check.due("23 to 28: errors", errors, 4 * BAD_INDEX + 4 * BAD_VALUE);
      for (int user = 0; user < 2; user++) {
        d.willMiss(user, 48);
        d.hoursToFull(user);
        d.pond(user);
        d.missed(user);
        d.account(user);
      }
    });
  }
}
