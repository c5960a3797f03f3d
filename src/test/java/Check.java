import java.util.ArrayList;
import java.util.List;
import java.util.function.Consumer;
import java.util.function.Supplier;
import java.util.function.ToIntFunction;

/** What all tests of the project share: the comparing of answers, and probes of whole districts. */
final class Check {
  private static int wrong = 0;
  private static int compared = 0;

  private Check() {
  }

  static void due(String what, long got, long want) {
    compared++;
    if (got != want) {
      wrong++;
      System.out.println(what + " answered " + got + ", due is " + want);
    }
  }

  static void holds(String what, boolean does) {
    due(what, does ? 1 : 0, 1);
  }

  /** Ends the test with exit code 1 if an answer was wrong, or if there was none at all. */
  static void finish() {
    System.out.println(compared + " answers compared, " + wrong + " wrong");
    if (wrong != 0 || compared == 0) System.exit(1);
  }

  static void write(IrrigationDistrict district, String text) {
    for (char letter : text.toCharArray()) {
      district.append(letter);
    }
  }

  /** The checksum of promise 39, by what the other calls tell. */
  static long toldChecksum(IrrigationDistrict d) {
    int ditches = d.ditches();
    int users = d.users();
    long h = 53;
    h = 31 * h + d.time();
    h = 31 * h + ditches;
    h = 31 * h + users;
    for (int ditch = 0; ditch < ditches; ditch++) {
      h = 31 * h + d.inflow(ditch);
      h = 31 * h + d.loses(ditch);
    }
    for (int user = 0; user < users; user++) {
      int[] values = {d.asks(user), d.gets(user), d.pond(user), d.missed(user), d.isShut(user)};
      for (int value : values) {
        h = 31 * h + value;
      }
    }
    for (int what = 0; what < 7; what++) {
      h = 31 * h + d.account(what);
    }
    return 31 * h + d.turn();
  }

  /** That the calls leave no trace in a district that is made twice, once with them and once without. */
  static void changesNothing(String what, Supplier<IrrigationDistrict> maker, Consumer<IrrigationDistrict> calls) {
    IrrigationDistrict asked = maker.get();
    IrrigationDistrict set = maker.get();
    calls.accept(asked);
    calls.accept(set);
    sameValues(what + ", asked", answers(asked), answers(maker.get()));
    sameValues(what + ", set", settings(set), settings(maker.get()));
  }

  /** That the call answers this error and leaves no trace. */
  static void refused(String what, Supplier<IrrigationDistrict> maker, ToIntFunction<IrrigationDistrict> call, int error) {
    changesNothing(what, maker, d -> due(what, call.applyAsInt(d), error));
  }

  private static void sameValues(String what, List<Long> with, List<Long> without) {
    due(what + ": number of values", with.size(), without.size());
    for (int i = 0; i < Math.min(with.size(), without.size()); i++) {
      due(what + ": value " + i, with.get(i), without.get(i));
    }
  }

  /** What a district answers to questions. It makes some 80 calls. */
  private static List<Long> answers(IrrigationDistrict d) {
    List<Long> seen = new ArrayList<>();
    seen.add((long) d.faultPosition());
    probePresent(d, seen);
    seen.add((long) d.read());
    seen.add(d.checksum());
    return seen;
  }

  /**
   * What a district has been set to, which is asked of one that has been asked nothing else before, since a
   * question that changes something would hide itself. It makes some 280 calls.
   */
  private static List<Long> settings(IrrigationDistrict d) {
    List<Long> seen = new ArrayList<>();
    probeSettings(d, seen);
    seen.add((long) d.clearText());
    for (int slot = 0; slot < 2; slot++) {
      int time = d.restore(slot);
      seen.add((long) time);
      if (time >= 0) probeSettings(d, seen);
    }
    return seen;
  }

  private static void probePresent(IrrigationDistrict d, List<Long> seen) {
    seen.add(d.checksum());
    int users = d.users();
    for (int user = 0; user < users; user++) {
      seen.add((long) d.userByAge(user));
      seen.add((long) d.limit(user));
      seen.add((long) d.leastSupply(user));
      seen.add((long) d.willMiss(user, 30));
      seen.add((long) d.hoursToFull(user));
    }
    int ditches = d.ditches();
    for (int ditch = 0; ditch < ditches; ditch++) {
      seen.add((long) d.usefulGate(ditch));
    }
  }

  private static void probeSettings(IrrigationDistrict d, List<Long> seen) {
    seen.add((long) d.advance(26));
    seen.add(d.checksum());
    seen.add((long) d.setRule(IrrigationDistrict.BY_AGE));
    seen.add((long) d.setFutile(0));
    for (int hour = 0; hour < 24; hour++) {
      seen.add((long) d.setSupply(hour, hour + 1, 200));
    }
    int users = d.users();
    for (int user = 0; user < users; user++) {
      seen.add((long) d.setTurn(user, 0));
      seen.add((long) d.setField(user, 60, 0, 24));
      seen.add((long) d.asks(user));
      seen.add((long) d.setPond(user, 500, 0));
    }
    int ditches = d.ditches();
    for (int ditch = 0; ditch < ditches; ditch++) {
      seen.add((long) d.setDitch(ditch, 200, 50));
    }
    seen.add(d.checksum());
  }
}
