/** Promises 37 to 39: slots and the checksum. */
final class SlotsTest {
  private static final int BAD_INDEX = IrrigationDistrict.BAD_INDEX;
  private static final int NOT_POSSIBLE = IrrigationDistrict.NOT_POSSIBLE;

  private SlotsTest() {
  }

  public static void main(String[] args) {
    save();
    restore();
    restoreTakesAllBack();
    restoreAddedUsers();
    slotsAndTextStay();
    emptyChecksum();
    checksumOfAll();
    nothingChanges();
    Check.finish();
  }

  private static void save() {
    IrrigationDistrict d = new IrrigationDistrict();
    Check.due("37: time 0", d.save(0), 0);
    d.advance(30);
    Check.due("37: time 30", d.save(1), 30);
    Check.due("37: slot 2", d.save(2), BAD_INDEX);
    Check.due("37: slot -1", d.save(-1), BAD_INDEX);
    Check.due("37: extreme slot", d.save(Integer.MAX_VALUE), BAD_INDEX);
    Check.due("38: the first one", d.restore(0), 0);
    Check.due("38: the second one", d.restore(1), 30);
    d.advance(5);
    Check.due("37: in place of the other", d.save(0), 35);
    Check.due("38: the second one stays", d.restore(1), 30);
    Check.due("38: the new first one", d.restore(0), 35);
  }

  private static void restore() {
    IrrigationDistrict d = new IrrigationDistrict();
    Check.due("38: slot 0 is empty", d.restore(0), NOT_POSSIBLE);
    Check.due("38: slot 1 is empty", d.restore(1), NOT_POSSIBLE);
    Check.due("38: slot 2", d.restore(2), BAD_INDEX);
    Check.due("38: slot -1", d.restore(-1), BAD_INDEX);
    d.advance(3);
    d.save(1);
    Check.due("38: the other one is still empty", d.restore(0), NOT_POSSIBLE);
    d.advance(4);
    Check.due("38: time then", d.restore(1), 3);
    Check.due("14: time", d.time(), 3);
    d.advance(9);
    Check.due("38: the slot keeps it", d.restore(1), 3);
  }

  private static IrrigationDistrict rich() {
    IrrigationDistrict d = new IrrigationDistrict();
    d.setDitch(0, 77, 3);
    d.addDitch(0, 60, 10);
    d.addUser(1, 1950, 40);
    d.addUser(0, 1900, 45);
    d.addUser(1, 1920, 30);
    d.setField(0, 40, 1, 20);
    d.setField(1, 50, 0, 24);
    d.setField(2, 20, 0, 24);
    d.setPond(1, 90, 2);
    d.setPond(2, 60, 1);
    d.setTurn(0, 2);
    d.setTurn(2, 1);
    d.setSupply(2, 7, 55);
    d.setRule(2);
    d.setFutile(20);
    d.advance(4);
    d.settle();
    return d;
  }

  private static void restoreTakesAllBack() {
    for (int slot = 0; slot < 2; slot++) {
      final int kept = slot;
      Check.changesNothing("38: slot " + slot, () -> saved(kept), d -> {
        Districts.upset(d);
        Check.due("38: time then", d.restore(kept), 4);
      });
    }
    IrrigationDistrict d = saved(0);
    Check.holds("31: somebody is shut off in the slot", d.isShut(0) + d.isShut(1) + d.isShut(2) > 0);
  }

  private static IrrigationDistrict saved(int slot) {
    IrrigationDistrict d = rich();
    d.save(slot);
    return d;
  }

  /** A user who is added again after restoring has nothing of the one who was there before. */
  private static void restoreAddedUsers() {
    Check.changesNothing("38: a place used again", () -> {
      IrrigationDistrict d = saved(0);
      Check.due("4: added", d.addUser(0, 1999, 9), 3);
      Check.due("2: added", d.addDitch(0, 99, 9), 2);
      return d;
    }, d -> {
      useUser3(d);
      d.restore(0);
      Check.due("38: gone", d.users() * 10 + d.ditches(), 32);
      Check.due("13: gone", d.userByAge(3), BAD_INDEX);
      d.addUser(0, 1999, 9);
      d.addDitch(0, 99, 9);
    });
  }

  /** Lets it miss water, have a content, and be shut off. */
  private static void useUser3(IrrigationDistrict d) {
    d.setField(3, 30, 0, 24);
    d.advance(9);
    Check.holds("26: something missed", d.missed(3) > 0);
    d.setField(3, 0, 0, 24);
    d.setPond(3, 99, 2);
    d.setSupply(0, 24, 20);
    d.setTurn(0, 0);
    d.setTurn(2, 0);
    d.setTurn(3, 9);
    d.setRule(1);
    d.advance(1);
    d.setFutile(0);
    d.settle();
    Check.due("32: shut off", d.isShut(3), 1);
    Check.holds("25: a content", d.pond(3) > 0);
  }

  private static void slotsAndTextStay() {
    IrrigationDistrict d = new IrrigationDistrict();
    Check.write(d, "d0.9.9;");
    d.save(0);
    d.addUser(0, 1900, 10);
    d.save(1);
    Check.write(d, "t0.5;");
    Check.due("38: slot 0", d.restore(0), 0);
    Check.due("38: the text stays as it is", d.faultPosition(), 8);
    Check.due("38: slot 1 stays", d.restore(1) + d.users(), 1);
    Check.due("36: the text", d.read(), 2);
    Check.due("34: its length", d.clearText(), 12);
    d.restore(0);
    Check.due("38: a cleared text stays so", d.clearText(), 0);
  }

  private static void emptyChecksum() {
    IrrigationDistrict d = new IrrigationDistrict();
    // time, ditches, users, inflow and loss of ditch 0, seven of the account, turn.
    long[] values = {0, 1, 0, 0, 0, 0, 0, 0, 0, 0, 0, 0, -105};
    long h = 53;
    for (long value : values) {
      h = 31 * h + value;
    }
    Check.due("39: new object", d.checksum(), h);
  }

  private static void checksumOfAll() {
    for (int day = 0; day < 3; day++) {
      IrrigationDistrict d = rich();
      if (day > 0) d.advance(16 * day);
      for (int hour = 0; hour < 9; hour++) {
        Check.due("39: day " + day + ", hour " + hour, d.checksum(), Check.toldChecksum(d));
        d.advance(1);
        d.setRule(hour % 3);
        if (hour % 4 == 0) d.settle();
      }
    }
  }

  private static void nothingChanges() {
    Check.changesNothing("37 to 39: errors and questions", SlotsTest::rich, d -> {
      Check.due("37: error", d.save(2) + d.save(-1), 2 * BAD_INDEX);
      Check.due("38: error", d.restore(2) + d.restore(0) + d.restore(1), BAD_INDEX + 2 * NOT_POSSIBLE);
      d.checksum();
    });
    Check.changesNothing("37: saving", () -> saved(1), d -> d.save(1));
  }
}
