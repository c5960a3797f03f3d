import java.util.function.Consumer;
import java.util.function.ToLongFunction;

/** The sentences on the slots and the checksum, at their edges. */
final class SlotSentencesTest {
  private static final int BAD_INDEX = IrrigationDistrict.BAD_INDEX;
  private static final int NOT_POSSIBLE = IrrigationDistrict.NOT_POSSIBLE;
  private static final int NONE = IrrigationDistrict.NONE;

  private SlotSentencesTest() {
  }

  public static void main(String[] args) {
    emptySlots();
    inPlaceOfWhatTheSlotKeeps();
    everythingIsSaved();
    exceptTheText();
    exceptTheSlots();
    theSlotKeepsIt();
    savingChangesNothing();
    newObjectIsRestored();
    numbersBeginAgain();
    checksumOfTheFullDistrict();
    Check.finish();
  }

  /** "NOT_POSSIBLE if nothing has been saved in the slot", of each of the two by itself. */
  private static void emptySlots() {
    for (int slot = 0; slot < 2; slot++) {
      IrrigationDistrict d = new IrrigationDistrict();
      Check.due("38: empty", d.restore(slot), NOT_POSSIBLE);
      d.advance(7);
      Check.due("37: a refused slot", d.save(slot == 0 ? -1 : 2), BAD_INDEX);
      Check.due("38: is none", d.restore(slot == 0 ? -1 : 2), BAD_INDEX);
      Check.due("38: still empty", d.restore(slot), NOT_POSSIBLE);
      Check.due("37: the time", d.save(slot), 7);
      Check.due("38: the other one is empty", d.restore(1 - slot), NOT_POSSIBLE);
      Check.due("38: and this one is not", d.restore(slot), 7);
      Check.due("37: the time, again", d.save(1 - slot), 7);
      Check.due("38: now the other one is not, either", d.restore(1 - slot), 7);
    }
  }

  /** "in place of what the slot keeps". */
  private static void inPlaceOfWhatTheSlotKeeps() {
    for (int slot = 0; slot < 2; slot++) {
      IrrigationDistrict d = new IrrigationDistrict();
      for (int round = 0; round < 5; round++) {
        Check.due("37: round " + round, d.save(slot), 3 * round);
        d.advance(3);
        Check.due("38: the last one that was saved", d.restore(slot), 3 * round);
        d.advance(3);
      }
      d.addUser(0, 1900, 9);
      d.save(slot);
      d.restore(slot);
      Check.due("38: what has become more", d.users(), 1);
    }
  }

  private static void saved(String what, Consumer<IrrigationDistrict> change, ToLongFunction<IrrigationDistrict> look) {
    for (int slot = 0; slot < 2; slot++) {
      IrrigationDistrict d = Districts.rich();
      d.save(slot);
      long before = look.applyAsLong(Districts.rich());
      change.accept(d);
      Check.holds("38: " + what + " is changed", look.applyAsLong(d) != before);
      d.restore(slot);
      Check.due("38: " + what + " in slot " + slot, look.applyAsLong(d), before);
    }
  }

  private static int asksWithoutPond(IrrigationDistrict d, int user) {
    d.setPond(user, 0, 0);
    return d.asks(user);
  }

  /** "Makes everything except the text and the slots as it was saved": each thing by itself. */
  private static void everythingIsSaved() {
    saved("the time", d -> d.advance(1), d -> d.time());
    saved("the number of ditches", d -> d.addDitch(0, 9, 9), d -> d.ditches());
    saved("a gate", d -> d.setDitch(2, 31, 1), d -> d.setDitch(2, 31, 1));
    saved("a loss", d -> d.setDitch(0, 90, 10), d -> d.loses(0));
    saved("the number of users", d -> d.addUser(0, 1999, 9), d -> d.users());
    saved("the ages", d -> d.addUser(0, 1800, 9), d -> d.userByAge(0));
    saved("a need", d -> d.setField(1, 24, 1, 24), d -> d.setField(1, 24, 1, 24));
    saved("the first hour of a field", d -> d.setField(1, 25, 6, 24), d -> asksWithoutPond(d, 1));
    saved("the last hour of a field", d -> d.setField(1, 25, 1, 5), d -> asksWithoutPond(d, 1));
    saved("a capacity", d -> d.setPond(2, d.pond(2), 5), d -> d.asks(2));
    saved("a content", d -> d.setPond(2, 1, 5), d -> d.pond(2));
    saved("a leak", d -> d.setPond(2, 200, 20), d -> d.advance(1) + 1000L * d.account(5));
    saved("a turn", d -> d.setTurn(3, 9), d -> d.setTurn(3, 9));
    saved("the supply", d -> d.setSupply(23, 24, 7), d -> d.setSupply(23, 24, 7));
    saved("the rule", d -> d.setRule(0), d -> d.setRule(0));
    saved("f", d -> d.setFutile(21), d -> d.setFutile(21));
    saved("who is shut off", d -> d.advance(1), d -> d.isShut(3));
    saved("what was missed", d -> d.advance(5), d -> d.missed(1));
    for (int what = 0; what < 7; what++) {
      final int sum = what;
      saved("account " + what, d -> d.advance(20), d -> d.account(sum));
    }
  }

  /** "everything except the text". */
  private static void exceptTheText() {
    IrrigationDistrict d = new IrrigationDistrict();
    Check.write(d, "d0.9.9;");
    d.save(0);
    Check.due("33: seven bytes, and one more", d.append('x'), 8);
    d.restore(0);
    Check.due("35: it is not as it was saved", d.faultPosition(), 7);
    Check.due("34: nor as long", d.clearText(), 8);
    d.restore(0);
    Check.due("35: nor does it come back", d.faultPosition(), NONE);
    Check.due("33: nor its length", d.append('x'), 1);
  }

  /** "except the text and the slots": restoring one makes the other one no older. */
  private static void exceptTheSlots() {
    IrrigationDistrict d = new IrrigationDistrict();
    d.save(0);
    d.advance(5);
    d.save(1);
    Check.due("38: the time 0", d.restore(0), 0);
    Check.due("38: when there was nothing in slot 1; there is now", d.restore(1), 5);
    d.advance(5);
    d.save(0);
    Check.due("38: slot 1 is as it was", d.restore(1), 5);
    Check.due("38: slot 0 is the new one", d.restore(0), 10);
    d.save(1);
    Check.due("38: both are", d.restore(1), 10);
  }

  /** "The slot keeps it": what is changed after restoring is not changed in the slot. */
  private static void theSlotKeepsIt() {
    for (int slot = 0; slot < 2; slot++) {
      final int kept = slot;
      Check.changesNothing("38: slot " + slot + " twice", () -> {
        IrrigationDistrict d = Districts.rich();
        d.save(kept);
        return d;
      }, d -> {
        for (int round = 0; round < 2; round++) {
          Districts.upset(d);
          Check.due("38: the time then", d.restore(kept), 5);
        }
      });
    }
  }

  private static void savingChangesNothing() {
    IrrigationDistrict d = Districts.rich();
    long before = d.checksum();
    Check.due("37: the time", d.save(1), 5);
    Check.due("39: after saving", d.checksum(), before);
    Check.due("38: the time", d.restore(1), 5);
    Check.due("39: after restoring", d.checksum(), before);
    Check.due("32: user 3 is shut off all the while", d.isShut(3), 1);
    Check.due("34: and the text is there", d.clearText(), 13);
  }

  /** A new object, the emptiest of all, is saved and restored as any other. */
  private static void newObjectIsRestored() {
    Check.changesNothing("38: a new object", () -> {
      IrrigationDistrict d = new IrrigationDistrict();
      d.save(0);
      return d;
    }, d -> {
      while (d.addDitch(d.ditches() - 1, 9, 9) > 0) {
        d.addUser(d.ditches() - 1, 1900, 9);
      }
      d.setRule(2);
      d.setFutile(1);
      d.setSupply(0, 24, 1);
      d.advance(48);
      Check.due("38: the time 0", d.restore(0), 0);
      Check.due("11: ditch 0 alone", d.ditches(), 1);
      Check.due("12: without users", d.users(), 0);
      Check.due("13: nobody is the oldest", d.userByAge(0), BAD_INDEX);
      Check.due("17: no ditch 1", d.inflow(1), BAD_INDEX);
    });
  }

  /** The numbers of ditches and users go on from those restored, and a new one has all first settings. */
  private static void numbersBeginAgain() {
    IrrigationDistrict d = new IrrigationDistrict();
    d.save(0);
    d.addDitch(0, 7, 50);
    d.addUser(1, 1800, 60);
    d.setField(0, 33, 0, 24);
    d.setPond(0, 99, 1);
    d.setTurn(0, 8);
    d.setSupply(0, 24, 20);
    d.advance(3);
    Check.holds("26: it has missed some", d.missed(0) > 0);
    d.setField(0, 33, 12, 13);
    d.advance(3);
    Check.holds("25: it has a content", d.pond(0) > 0);
    d.restore(0);
    Check.due("2: the number of the first one again", d.addDitch(0, 200, 0), 1);
    Check.due("4: the number of the first one again", d.addUser(0, 2099, 40), 0);
    Check.due("25: no content", d.pond(0), 0);
    Check.due("26: nothing missed", d.missed(0), 0);
    Check.due("28: no capacity", d.hoursToFull(0), 0);
    Check.due("7: no turn", d.setTurn(0, 0), 0);
    Check.due("5: no need", d.setField(0, 60, 0, 24), 0);
    Check.due("15: the new right", d.asks(0), 40);
    Check.due("17: at the new ditch, which is ditch 0", d.inflow(1), 0);
    Check.due("17: of all its water", d.inflow(0), 40);
    Check.due("3: the new gate", d.setDitch(1, 200, 0), 200);
    d.setPond(0, 10, 0);
    d.setField(0, 0, 0, 1);
    d.advance(2);
    Check.due("24: the leak is set anew", d.account(5), 0);
  }

  /** Promise 39, with all ditches and users there can be, and so with an overflow. */
  private static void checksumOfTheFullDistrict() {
    IrrigationDistrict d = Districts.full();
    for (int round = 0; round < 3; round++) {
      Check.due("39: round " + round, d.checksum(), Check.toldChecksum(d));
      d.advance(9);
      d.setRule(round);
    }
  }
}
