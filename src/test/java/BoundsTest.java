import java.util.ArrayList;
import java.util.List;
import java.util.function.Supplier;

/**
 * Errors: for each parameter of each call the first and the last value that is allowed, the values next to them
 * that are not, and the greatest and the least int; the order of the checks; and that each refused call, by
 * itself, changes nothing, as questions do not.
 */
final class BoundsTest {
  private static final int BAD_INDEX = IrrigationDistrict.BAD_INDEX;
  private static final int BAD_VALUE = IrrigationDistrict.BAD_VALUE;
  private static final int NOT_POSSIBLE = IrrigationDistrict.NOT_POSSIBLE;
  private static final int FULL = IrrigationDistrict.FULL;
  private static final int NONE = IrrigationDistrict.NONE;

  private interface Call {
    int on(IrrigationDistrict d, int[] values);
  }

  private record Parameter(int error, int least, int greatest, int middle) {
    int[] refused() {
      return new int[] {least - 1, greatest + 1, Integer.MIN_VALUE, Integer.MAX_VALUE};
    }
  }

  private record Kind(String name, Call call, Parameter[] parameters) {
    int[] middles() {
      int[] values = new int[parameters.length];
      for (int i = 0; i < values.length; i++) {
        values[i] = parameters[i].middle;
      }
      return values;
    }
  }

  private BoundsTest() {
  }

  public static void main(String[] args) {
    List<Kind> kinds = new ArrayList<>(actions());
    kinds.addAll(questions());
    for (Kind kind : kinds) {
      ends(kind);
      oneWrong(kind);
      twoWrong(kind);
    }
    districtsAreAsTold();
    questionsChangeNothing();
    hoursOfFields();
    hoursOfSupply();
    emptyDistrict();
    fullDistrict();
    fullText();
    notPossible();
    noneIsNoError();
    Check.finish();
  }

  /** The ranges are those of Districts.rich: the ditches 0 to 3, and the users 0 to 4. */
  private static Parameter ditch() {
    return new Parameter(BAD_INDEX, 0, 3, 1);
  }

  private static Parameter user() {
    return new Parameter(BAD_INDEX, 0, 4, 2);
  }

  private static Parameter index(int least, int greatest) {
    return new Parameter(BAD_INDEX, least, greatest, least);
  }

  private static Parameter value(int least, int greatest) {
    return new Parameter(BAD_VALUE, least, greatest, (least + greatest) / 2);
  }

  private static Kind kind(String name, Call call, Parameter... parameters) {
    return new Kind(name, call, parameters);
  }

  private static List<Kind> actions() {
    return List.of(
        kind("2: addDitch", (d, v) -> d.addDitch(v[0], v[1], v[2]), ditch(), value(1, 200), value(0, 50)),
        kind("3: setDitch", (d, v) -> d.setDitch(v[0], v[1], v[2]), ditch(), value(1, 200), value(0, 50)),
        kind("4: addUser", (d, v) -> d.addUser(v[0], v[1], v[2]), ditch(), value(1800, 2099), value(0, 60)),
        kind("5: setField to 24", (d, v) -> d.setField(v[0], v[1], v[2], 24), user(), value(0, 60), value(0, 23)),
        kind("5: setField from 3", (d, v) -> d.setField(v[0], v[1], 3, v[2]), user(), value(0, 60), value(4, 24)),
        kind("6: setPond", (d, v) -> d.setPond(v[0], v[1], v[2]), user(), value(0, 500), value(0, 20)),
        kind("7: setTurn", (d, v) -> d.setTurn(v[0], v[1]), user(), value(0, 24)),
        kind("8: setSupply to 24", (d, v) -> d.setSupply(v[0], 24, v[1]), value(0, 23), value(0, 200)),
        kind("8: setSupply from 3", (d, v) -> d.setSupply(3, v[0], v[1]), value(4, 24), value(0, 200)),
        kind("9: setRule", (d, v) -> d.setRule(v[0]), value(0, 2)),
        kind("10: setFutile", (d, v) -> d.setFutile(v[0]), value(0, 100)),
        kind("23: advance", (d, v) -> d.advance(v[0]), value(1, 48)),
        kind("33: append", (d, v) -> d.append(v[0]), value(0, 127)),
        kind("37: save", (d, v) -> d.save(v[0]), index(0, 1)),
        kind("38: restore", (d, v) -> d.restore(v[0]), index(0, 1)));
  }

  private static List<Kind> questions() {
    return List.of(
        kind("13: userByAge", (d, v) -> d.userByAge(v[0]), user()),
        kind("15: asks", (d, v) -> d.asks(v[0]), user()),
        kind("16: gets", (d, v) -> d.gets(v[0]), user()),
        kind("17: inflow", (d, v) -> d.inflow(v[0]), ditch()),
        kind("18: loses", (d, v) -> d.loses(v[0]), ditch()),
        kind("20: limit", (d, v) -> d.limit(v[0]), user()),
        kind("21: leastSupply", (d, v) -> d.leastSupply(v[0]), user()),
        kind("22: usefulGate", (d, v) -> d.usefulGate(v[0]), ditch()),
        kind("24: account", (d, v) -> d.account(v[0]), value(0, 6)),
        kind("25: pond", (d, v) -> d.pond(v[0]), user()),
        kind("26: missed", (d, v) -> d.missed(v[0]), user()),
        kind("27: willMiss", (d, v) -> d.willMiss(v[0], v[1]), user(), value(1, 48)),
        kind("28: hoursToFull", (d, v) -> d.hoursToFull(v[0]), user()),
        kind("29: gain", (d, v) -> d.gain(v[0], v[1]), user(), user()),
        kind("30: complaint", (d, v) -> d.complaint(v[0], v[1]), user(), user()),
        kind("32: isShut", (d, v) -> d.isShut(v[0]), user()));
  }

  /** What this test and others need of the districts that Districts makes. */
  private static void districtsAreAsTold() {
    IrrigationDistrict rich = Districts.rich();
    Check.due("rich: ditches and users", rich.ditches() * 100 + rich.users(), 405);
    Check.due("rich: the users 0 and 3 are shut off", rich.isShut(0) * 10 + rich.isShut(3), 11);
    Check.due("rich: and nobody else", rich.isShut(1) + rich.isShut(2) + rich.isShut(4), 0);
    Check.holds("rich: there is water in a pond", rich.pond(2) > 0);
    Check.due("rich: slot 0", rich.restore(0), 2);
    Check.due("rich: slot 1", rich.restore(1), NOT_POSSIBLE);
    Check.due("rich: text", rich.read(), 2);
    IrrigationDistrict full = Districts.full();
    Check.due("full: ditches and users", full.ditches() * 100 + full.users(), 1012);
    Check.due("full: text", full.read(), 1);
    Check.due("full: slots", full.restore(0) * 10 + full.restore(1), 7);
    IrrigationDistrict fullText = Districts.fullText();
    Check.due("full text: twenty orders", fullText.read(), 20);
    Check.due("full text: 100 bytes", fullText.clearText(), 100);
  }

  /** Each question, with all users and ditches that there are in the one or the other district. */
  private static void questionsChangeNothing() {
    for (Kind kind : questions()) {
      Check.changesNothing(kind.name + " of a rich district", Districts::rich, d -> askAll(kind, d));
      Check.changesNothing(kind.name + " of a full district", Districts::full, d -> askAll(kind, d));
    }
    Check.changesNothing("all others", Districts::rich, d -> {
      Check.due("11: ditches", d.ditches(), 4);
      Check.due("12: users", d.users(), 5);
      Check.due("14: time", d.time(), 5);
      Check.due("19: turn", d.turn(), NONE);
      Check.due("35: fault position", d.faultPosition(), NONE);
      Check.due("39: checksum", d.checksum(), Districts.rich().checksum());
    });
  }

  private static void askAll(Kind kind, IrrigationDistrict d) {
    int[] values = kind.middles();
    for (int first = 0; first < 12; first++) {
      values[0] = first;
      if (values.length == 1) {
        kind.call.on(d, values);
        continue;
      }
      for (int second = first % 3; second < 12; second += 3) {
        values[1] = second;
        kind.call.on(d, values);
      }
    }
  }

  private static String told(Kind kind, int[] values) {
    return kind.name + java.util.Arrays.toString(values);
  }

  /** The first and the last value of each parameter are in range, whatever else the call answers. */
  private static void ends(Kind kind) {
    for (int i = 0; i < kind.parameters.length; i++) {
      for (int end : new int[] {kind.parameters[i].least, kind.parameters[i].greatest}) {
        int[] values = kind.middles();
        values[i] = end;
        int answer = kind.call.on(Districts.rich(), values);
        Check.holds(told(kind, values) + " is in range", answer != BAD_INDEX && answer != BAD_VALUE && answer != FULL);
      }
    }
  }

  private static void oneWrong(Kind kind) {
    for (int i = 0; i < kind.parameters.length; i++) {
      for (int wrong : kind.parameters[i].refused()) {
        int[] values = kind.middles();
        values[i] = wrong;
        refused(kind, values, kind.parameters[i].error);
      }
    }
  }

  /** "Where several can apply, the order of the @return line is the order of the checks": BAD_INDEX is the first. */
  private static void twoWrong(Kind kind) {
    Parameter[] parameters = kind.parameters;
    for (int i = 0; i < parameters.length; i++) {
      for (int j = i + 1; j < parameters.length; j++) {
        boolean index = parameters[i].error == BAD_INDEX || parameters[j].error == BAD_INDEX;
        for (int wrong : parameters[i].refused()) {
          int[] values = kind.middles();
          values[i] = wrong;
          values[j] = parameters[j].refused()[wrong < 0 ? 0 : 1];
          refused(kind, values, index ? BAD_INDEX : BAD_VALUE);
        }
      }
    }
  }

  private static void refused(Kind kind, int[] values, int error) {
    Check.refused(told(kind, values), Districts::rich, d -> kind.call.on(d, values), error);
  }

  /** "from: 0 to 23", "to: from + 1 to 24". */
  private static boolean areHours(int from, int to) {
    return from >= 0 && from <= 23 && to >= from + 1 && to <= 24;
  }

  private static void hoursOfFields() {
    for (int from = -2; from <= 26; from++) {
      IrrigationDistrict d = Districts.rich();
      for (int to = -2; to <= 27; to++) {
        int before = d.setField(1, 7, 0, 24);
        int answer = d.setField(1, 9, from, to);
        Check.due("5: from " + from + " to " + to, answer, areHours(from, to) ? 7 : BAD_VALUE);
        Check.due("5: then", d.setField(1, 8, 0, 24), areHours(from, to) ? 9 : 7);
        Check.due("5: before", before, to == -2 ? 25 : 8);
      }
    }
  }

  private static void hoursOfSupply() {
    for (int from = -2; from <= 26; from++) {
      IrrigationDistrict d = Districts.rich();
      for (int to = -2; to <= 27; to++) {
        d.setSupply(0, 24, 7);
        int answer = d.setSupply(from, to, 9);
        Check.due("8: from " + from + " to " + to, answer, areHours(from, to) ? 7 : BAD_VALUE);
        int hour = Math.floorMod(from, 24);
        Check.due("8: then", d.setSupply(hour, hour + 1, 8), areHours(from, to) ? 9 : 7);
      }
    }
  }

  /** "There is no such ditch, user, slot or index": a new object has ditch 0 alone, and no users. */
  private static void emptyDistrict() {
    IrrigationDistrict x = new IrrigationDistrict();
    Supplier<IrrigationDistrict> empty = IrrigationDistrict::new;
    Check.due("2: ditch 0 is there", x.addDitch(0, 50, 0), 1);
    Check.refused("2: no ditch 1", empty, d -> d.addDitch(1, 50, 0), BAD_INDEX);
    Check.refused("3: no ditch 1", empty, d -> d.setDitch(1, 50, 0), BAD_INDEX);
    Check.refused("4: no ditch 1", empty, d -> d.addUser(1, 1900, 5), BAD_INDEX);
    Check.refused("5: no user 0", empty, d -> d.setField(0, 5, 0, 24), BAD_INDEX);
    Check.refused("6: no user 0", empty, d -> d.setPond(0, 5, 0), BAD_INDEX);
    Check.refused("7: no user 0", empty, d -> d.setTurn(0, 5), BAD_INDEX);
    Check.refused("13: no rank 0", empty, d -> d.userByAge(0), BAD_INDEX);
    Check.refused("15: no user 0", empty, d -> d.asks(0), BAD_INDEX);
    Check.refused("16: no user 0", empty, d -> d.gets(0), BAD_INDEX);
    Check.refused("17: no ditch 1", empty, d -> d.inflow(1), BAD_INDEX);
    Check.refused("18: no ditch 1", empty, d -> d.loses(1), BAD_INDEX);
    Check.refused("20: no user 0", empty, d -> d.limit(0), BAD_INDEX);
    Check.refused("21: no user 0", empty, d -> d.leastSupply(0), BAD_INDEX);
    Check.refused("22: no ditch 1", empty, d -> d.usefulGate(1), BAD_INDEX);
    Check.refused("25: no user 0", empty, d -> d.pond(0), BAD_INDEX);
    Check.refused("26: no user 0", empty, d -> d.missed(0), BAD_INDEX);
    Check.refused("27: no user 0", empty, d -> d.willMiss(0, 1), BAD_INDEX);
    Check.refused("28: no user 0", empty, d -> d.hoursToFull(0), BAD_INDEX);
    Check.refused("29: no user 0", empty, d -> d.gain(0, 0), BAD_INDEX);
    Check.refused("30: no user 0", empty, d -> d.complaint(0, 0), BAD_INDEX);
    Check.refused("32: no user 0", empty, d -> d.isShut(0), BAD_INDEX);
    Check.refused("38: slot 0 is empty", empty, d -> d.restore(0), NOT_POSSIBLE);
    Check.refused("38: slot 1 is empty", empty, d -> d.restore(1), NOT_POSSIBLE);
  }

  /** "FULL if there are 10 ditches", "FULL if there are 12 users", behind the other checks. */
  private static void fullDistrict() {
    Supplier<IrrigationDistrict> full = Districts::full;
    Check.refused("2: an eleventh ditch", full, d -> d.addDitch(9, 200, 50), FULL);
    Check.refused("2: its least values", full, d -> d.addDitch(0, 1, 0), FULL);
    Check.refused("2: BAD_VALUE before FULL", full, d -> d.addDitch(9, 201, 50), BAD_VALUE);
    Check.refused("2: BAD_VALUE before FULL, too", full, d -> d.addDitch(9, 200, 51), BAD_VALUE);
    Check.refused("2: BAD_INDEX before FULL", full, d -> d.addDitch(10, 200, 50), BAD_INDEX);
    Check.refused("4: a thirteenth user", full, d -> d.addUser(9, 2099, 60), FULL);
    Check.refused("4: its least values", full, d -> d.addUser(0, 1800, 0), FULL);
    Check.refused("4: BAD_VALUE before FULL", full, d -> d.addUser(9, 2100, 60), BAD_VALUE);
    Check.refused("4: BAD_VALUE before FULL, too", full, d -> d.addUser(9, 2099, 61), BAD_VALUE);
    Check.refused("4: BAD_INDEX before FULL", full, d -> d.addUser(10, 2099, 60), BAD_INDEX);
    Check.refused("3: no ditch 10", full, d -> d.setDitch(10, 50, 5), BAD_INDEX);
    Check.refused("5: no user 12", full, d -> d.setField(12, 5, 0, 24), BAD_INDEX);
    Check.refused("6: no user 12", full, d -> d.setPond(12, 5, 0), BAD_INDEX);
    Check.refused("7: no user 12", full, d -> d.setTurn(12, 5), BAD_INDEX);
    Check.refused("13: no rank 12", full, d -> d.userByAge(12), BAD_INDEX);
    Check.refused("15: no user 12", full, d -> d.asks(12), BAD_INDEX);
    Check.refused("16: no user 12", full, d -> d.gets(12), BAD_INDEX);
    Check.refused("17: no ditch 10", full, d -> d.inflow(10), BAD_INDEX);
    Check.refused("18: no ditch 10", full, d -> d.loses(10), BAD_INDEX);
    Check.refused("20: no user 12", full, d -> d.limit(12), BAD_INDEX);
    Check.refused("21: no user 12", full, d -> d.leastSupply(12), BAD_INDEX);
    Check.refused("22: no ditch 10", full, d -> d.usefulGate(10), BAD_INDEX);
    Check.refused("25: no user 12", full, d -> d.pond(12), BAD_INDEX);
    Check.refused("26: no user 12", full, d -> d.missed(12), BAD_INDEX);
    Check.refused("27: no user 12", full, d -> d.willMiss(12, 48), BAD_INDEX);
    Check.refused("28: no user 12", full, d -> d.hoursToFull(12), BAD_INDEX);
    Check.refused("29: no older user 12", full, d -> d.gain(12, 11), BAD_INDEX);
    Check.refused("29: no younger user 12", full, d -> d.gain(11, 12), BAD_INDEX);
    Check.refused("30: no older user 12", full, d -> d.complaint(12, 11), BAD_INDEX);
    Check.refused("30: no younger user 12", full, d -> d.complaint(11, 12), BAD_INDEX);
    Check.refused("32: no user 12", full, d -> d.isShut(12), BAD_INDEX);
    Check.refused("37: no slot 2", full, d -> d.save(2), BAD_INDEX);
    Check.refused("38: no slot 2", full, d -> d.restore(2), BAD_INDEX);
  }

  /** "FULL if it has 100 bytes", behind BAD_VALUE. */
  private static void fullText() {
    for (int letter : new int[] {0, 't', ';', 127}) {
      Check.refused("33: byte 101, " + letter, Districts::fullText, d -> d.append(letter), FULL);
    }
    for (int letter : new int[] {-1, 128, Integer.MIN_VALUE, Integer.MAX_VALUE}) {
      Check.refused("33: BAD_VALUE before FULL, " + letter, Districts::fullText, d -> d.append(letter), BAD_VALUE);
    }
  }

  /** "The call is not possible now". By age the users of Districts.rich are 4, 1, 2, 0, 3; 0 and 3 are shut off. */
  private static void notPossible() {
    int[] byAge = {4, 1, 2, 0, 3};
    Supplier<IrrigationDistrict> rich = Districts::rich;
    for (int older = 0; older < 5; older++) {
      for (int rank = 0; rank <= older; rank++) {
        int first = byAge[older];
        int second = byAge[rank];
        Check.refused("29: " + second + " is not younger than " + first, rich, d -> d.gain(first, second), NOT_POSSIBLE);
        Check.refused("30: " + second + " is not younger than " + first, rich, d -> d.complaint(first, second), NOT_POSSIBLE);
      }
    }
    Check.refused("20: one who asks for nothing gets it all", rich, d -> d.limit(3), NOT_POSSIBLE);
    Check.refused("38: slot 1 is empty", rich, d -> d.restore(1), NOT_POSSIBLE);
    Supplier<IrrigationDistrict> withFault = () -> {
      IrrigationDistrict d = Districts.rich();
      Check.write(d, "d0.50.51;");
      return d;
    };
    Check.refused("36: a text with a fault in its last order", withFault, d -> d.read(), NOT_POSSIBLE);
  }

  /** "NONE is not an error and is returned only if no error applies." */
  private static void noneIsNoError() {
    IrrigationDistrict d = new IrrigationDistrict();
    d.addUser(0, 1900, 60);
    d.setField(0, 60, 0, 24);
    d.setDitch(0, 20, 0);
    d.setPond(0, 500, 0);
    Check.due("21: with none of them", d.leastSupply(0), NONE);
    Check.due("21: but an error is told", d.leastSupply(1), BAD_INDEX);
    Check.due("28: not in 48 hours", d.hoursToFull(0), NONE);
    Check.due("28: but an error is told", d.hoursToFull(1), BAD_INDEX);
    d.setSupply(0, 24, 19);
    Check.due("20: the supply limits it", d.limit(0), NONE);
    Check.due("20: but an error is told", d.limit(1), BAD_INDEX);
    d.setField(0, 0, 0, 24);
    d.setPond(0, 0, 0);
    Check.due("20: and so is that nothing limits it", d.limit(0), NOT_POSSIBLE);
    Check.due("19: nobody's turn", d.turn(), NONE);
    Check.due("35: no fault", d.faultPosition(), NONE);
  }
}
