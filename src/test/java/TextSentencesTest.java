/** The sentences of the Description on the text, at their edges. */
final class TextSentencesTest {
  private static final int BAD_VALUE = IrrigationDistrict.BAD_VALUE;
  private static final int NOT_POSSIBLE = IrrigationDistrict.NOT_POSSIBLE;
  private static final int FULL = IrrigationDistrict.FULL;
  private static final int NONE = IrrigationDistrict.NONE;

  private TextSentencesTest() {
  }

  public static void main(String[] args) {
    atMostHundredBytes();
    everyLetterOnce();
    ordersPerhapsNone();
    eachFollowedByASemicolon();
    endsTooEarlyAtHundred();
    endsTooEarlyAfterALongerText();
    rangesOfDitchNumbers();
    rangesOfUserNumbers();
    rangesOfTurnNumbers();
    rangesOfSupplyNumbers();
    secondHourIsGreater();
    beginsWithZeroAndHasMoreDigits();
    asLongAsPossible();
    firstFaultOfSeveral();
    thoseBeforeItCount();
    noDitchesAndUsersOfFaultyText();
    lastRoom();
    noRoomBeforeAllElse();
    ordersAreCarriedOutInOrder();
    readAgain();
    Check.finish();
  }

  /** The district of the tests has the ditches 0 and 1 and the users 0 and 1. */
  private static IrrigationDistrict small() {
    IrrigationDistrict d = new IrrigationDistrict();
    d.addDitch(0, 50, 0);
    d.addUser(0, 1900, 20);
    d.addUser(1, 1950, 30);
    return d;
  }

  private static void fault(String text, int due) {
    fault(small(), text, due);
  }

  private static void fault(IrrigationDistrict d, String text, int due) {
    d.clearText();
    Check.write(d, text);
    Check.due("35: " + text, d.faultPosition(), due);
    if (due != NONE) Check.due("36: " + text, d.read(), NOT_POSSIBLE);
  }

  /** "The text has at most 100 bytes", which are counted anew when it has been emptied. */
  private static void atMostHundredBytes() {
    IrrigationDistrict d = new IrrigationDistrict();
    for (int round = 0; round < 2; round++) {
      for (int length = 1; length <= 100; length++) {
        Check.due("33: length", d.append('t'), length);
      }
      Check.due("33: no byte 101", d.append('t'), FULL);
      Check.due("33: nor then", d.append('t'), FULL);
      Check.due("34: it had 100", d.clearText(), 100);
      Check.due("34: and has none", d.clearText(), 0);
    }
    Check.due("33: the first one again", d.append('t'), 1);
    Check.due("33: a refused letter", d.append(128), BAD_VALUE);
    Check.due("33: is no byte", d.append('t'), 2);
    Check.due("34: two", d.clearText(), 2);
  }

  /** "letter: 0 to 127". */
  private static void everyLetterOnce() {
    IrrigationDistrict d = new IrrigationDistrict();
    int length = 0;
    for (int letter = -2; letter <= 130; letter++) {
      if (length == 100) {
        Check.due("34: 100", d.clearText(), 100);
        length = 0;
      }
      boolean isLetter = letter >= 0 && letter <= 127;
      if (isLetter) length++;
      Check.due("33: letter " + letter, d.append(letter), isLetter ? length : BAD_VALUE);
    }
    Check.due("34: 28", d.clearText(), 28);
  }

  /** "It consists of orders, perhaps none". */
  private static void ordersPerhapsNone() {
    IrrigationDistrict d = small();
    Check.due("35: an empty text has no fault", d.faultPosition(), NONE);
    Check.due("36: and no orders", d.read(), 0);
    Check.write(d, "t0.1;");
    d.clearText();
    Check.due("35: nor has one that was emptied", d.faultPosition(), NONE);
    Check.due("36: nor are its orders there", d.read(), 0);
    Check.due("7: nor carried out", d.setTurn(0, 0), 0);
  }

  /** "each followed by a semicolon", the last one, too. */
  private static void eachFollowedByASemicolon() {
    for (String order : new String[] {"d0.50.10", "u0.1900.20", "t0.12", "s0-24.70"}) {
      fault(order, order.length());
      fault(order + ";", NONE);
      fault(order + ";" + order + ";", NONE);
      fault(order + ";" + order, 2 * order.length() + 1);
      fault(order + order + ";", order.length());
      fault(order + ";;", order.length() + 1);
      fault(";" + order + ";", 0);
      fault(order + " ;", order.length());
      fault(order + "; ", order.length() + 1);
      fault(order + ":", order.length());
      fault(order + ".", order.length());
      fault(order.toUpperCase() + ";", 0);
    }
  }

  /** "or its length if it ends too early", up to the length 100. */
  private static void endsTooEarlyAtHundred() {
    String nineteen = "t0.9;".repeat(19);
    fault(nineteen + "t0.9;", NONE);
    fault(nineteen + "t0.12", 100);
    fault(nineteen + "t0.9", 99);
    fault(nineteen + "t0.9:", 99);
    fault(nineteen + "t0.9t", 99);
    fault(nineteen + "t0.25", 98);
    fault("t0.9;".repeat(18) + "t0.12;" + "t0.9", 100);
    fault("t0.9;".repeat(18) + "t0.12;" + "t0.;", 99);
    fault("t0.9;".repeat(17) + "s0-24.1;" + "t0.9;" + "t0", 100);
    fault("t0.9;".repeat(17) + "s0-24.1;" + "t0.10;" + "t", 100);
    fault("t0.9;".repeat(17) + "s0-24.1;" + "t0.10;" + "x", 99);
  }

  /** Bytes of an earlier, longer text do not count behind the end of a shorter one. */
  private static void endsTooEarlyAfterALongerText() {
    for (String order : new String[] {"d0.50.10;", "u0.1900.20;", "t0.12;", "s0-24.70;"}) {
      for (int end = 1; end < order.length(); end++) {
        IrrigationDistrict d = small();
        Check.write(d, order);
        Check.due("35: the whole of " + order, d.faultPosition(), NONE);
        d.clearText();
        String part = order.substring(0, end);
        Check.write(d, part);
        // The beginnings of 1900 are no years, and faults at their first digit.
        Check.due("35: only " + part, d.faultPosition(), order.charAt(0) == 'u' && end > 3 && end < 7 ? 3 : end);
        Check.due("36: only " + part, d.read(), NOT_POSSIBLE);
      }
    }
  }

  private static void range(String before, String behind, int least, int greatest, int tried) {
    for (int number = 0; number <= tried; number++) {
      boolean within = number >= least && number <= greatest;
      fault(before + number + behind, within ? NONE : before.length());
    }
    fault(before + "4294967296" + behind, before.length());
    fault(before + "4294967297" + behind, before.length());
    fault(before + "18446744073709551617" + behind, before.length());
    fault(before + "9".repeat(80) + behind, before.length());
    fault(before + "-1" + behind, before.length());
    fault(before + "+1" + behind, before.length());
    fault(before + behind, before.length());
    fault(before, before.length());
  }

  /** "d, the number of the parent, a point, the gate, a point and the loss". */
  private static void rangesOfDitchNumbers() {
    range("d", ".50.10;", 0, 1, 30);
    range("d0.", ".10;", 1, 200, 220);
    range("d0.50.", ";", 0, 50, 120);
  }

  /** "u, the number of the ditch, a point, the year, a point and the units of the right". */
  private static void rangesOfUserNumbers() {
    range("u", ".1900.20;", 0, 1, 30);
    range("u0.", ".20;", 1800, 2099, 2200);
    range("u0.1900.", ";", 0, 60, 120);
  }

  /** "t, the number of a user, a point and a number of hours". */
  private static void rangesOfTurnNumbers() {
    range("t", ".5;", 0, 1, 30);
    range("t0.", ";", 0, 24, 120);
  }

  /** "s, an hour, a hyphen, an hour, a point and a number of units". */
  private static void rangesOfSupplyNumbers() {
    range("s", "-24.5;", 0, 23, 120);
    range("s7-", ".5;", 8, 24, 120);
    range("s0-24.", ";", 0, 200, 220);
  }

  /** "or the second hour that is not greater than the first one". */
  private static void secondHourIsGreater() {
    for (int from = 0; from <= 25; from++) {
      for (int to = 0; to <= 26; to++) {
        String text = "s" + from + "-" + to + ".7;";
        if (from > 23) fault(text, 1);
        else fault(text, to > from && to <= 24 ? NONE : text.indexOf('-') + 1);
      }
    }
  }

  /** "a number that begins with 0 and has more digits": also if it would be in range; 0 by itself is a number. */
  private static void beginsWithZeroAndHasMoreDigits() {
    String[] numbers = {"00", "01", "000", "001", "05", "007", "08"};
    for (String number : numbers) {
      fault("d" + number + ".50.10;", 1);
      fault("d0." + number + ".10;", 3);
      fault("d0.50." + number + ";", 6);
      fault("u" + number + ".1900.20;", 1);
      fault("u0." + number + ".20;", 3);
      fault("u0.1900." + number + ";", 8);
      fault("t" + number + ".5;", 1);
      fault("t0." + number + ";", 3);
      fault("s" + number + "-24.5;", 1);
      fault("s0-" + number + ".5;", 3);
      fault("s0-24." + number + ";", 6);
    }
    fault("u0.01900.20;", 3);
    fault("s0-024.5;", 3);
    fault("d0.1.0;", NONE);
    fault("u0.1900.0;", NONE);
    fault("t0.0;", NONE);
    fault("s0-1.0;", NONE);
    fault("t0", 2);
    fault("t00", 1);
  }

  /** "Numbers are sequences of digits, as long as possible": none ends before its last digit to be in range. */
  private static void asLongAsPossible() {
    fault("d0.2000.10;", 3);
    fault("d0.50.100;", 6);
    fault("u0.19000.20;", 3);
    fault("u0.1900.200;", 8);
    fault("t0.240;", 3);
    fault("t10.5;", 1);
    fault("s230-24.5;", 1);
    fault("s0-240.5;", 3);
    fault("s0-24.2000;", 6);
    // The digits go up to the end of the text, which the number is a fault of before its end is.
    fault("d0.201", 3);
    fault("u0.180", 3);
    fault("t0.25", 3);
    fault("s9-9", 3);
    fault("s9-1", 3);
    fault("t2", 1);
  }

  /** "the first byte": a fault is told by its place, whatever else is wrong behind it. */
  private static void firstFaultOfSeveral() {
    fault("d2.0.51;", 1);
    fault("d0.0.51;", 3);
    fault("d0.1.51x", 5);
    fault("u2.1799.61;", 1);
    fault("u1.1799.61;", 3);
    fault("u1.1800.61;", 8);
    fault("t2.25;", 1);
    fault("t1.25,", 3);
    fault("s24-24.201;", 1);
    fault("s23-23.201;", 4);
    fault("s23-24.201;", 7);
    fault("t0.9;x;t2.9;", 5);
    fault("t0.9;t0,9;x", 7);
  }

  /** "that names no ditch or user (those of the text before it count)". */
  private static void thoseBeforeItCount() {
    fault("d2.9.9;", 1);
    fault("d1.9.9;d2.9.9;d3.9.9;", NONE);
    fault("d1.9.9;d3.9.9;", 8);
    fault("u2.1900.9;d1.9.9;", 1);
    fault("d1.9.9;u2.1900.9;", NONE);
    fault("d1.9.9;u3.1900.9;", 8);
    fault("t2.9;u1.1900.9;", 1);
    fault("u1.1900.9;t2.9;", NONE);
    fault("u1.1900.9;t3.9;", 11);
    fault("u1.1900.9;d2.9.9;", 11);
    fault("d1.9.9;t2.9;", 8);
    IrrigationDistrict empty = new IrrigationDistrict();
    fault(empty, "t0.9;", 1);
    fault(empty, "t", 1);
    fault(empty, "d1.9.9;", 1);
    fault(empty, "u0.1900.9;t0.9;", NONE);
    fault(empty, "u1.1900.9;", 1);
  }

  /** What a text with a fault would add is not there for the next text. */
  private static void noDitchesAndUsersOfFaultyText() {
    IrrigationDistrict d = small();
    fault(d, "d1.9.9;u2.1900.9;t2.9;x", 22);
    fault(d, "d2.9.9;", 1);
    fault(d, "u2.1900.9;", 1);
    fault(d, "t2.9;", 1);
    fault(d, "d1.9.9;u2.1900.9;t2.9;", NONE);
    Check.due("35: the fault position carries out nothing", d.ditches() * 10 + d.users(), 22);
    Check.due("36: reading does", d.read(), 3);
    Check.due("36: so that all is there", d.ditches() * 10 + d.users(), 33);
    fault(d, "d2.9.9;", NONE);
    fault(d, "u2.1900.9;", NONE);
    fault(d, "t2.9;", NONE);
  }

  private static IrrigationDistrict filled(int ditches, int users) {
    IrrigationDistrict d = new IrrigationDistrict();
    while (d.ditches() < ditches) {
      d.addDitch(d.ditches() - 1, 50, 0);
    }
    for (int user = 0; user < users; user++) {
      d.addUser(0, 1900, 9);
    }
    return d;
  }

  /** "the letter of an order for which there is no room": the tenth ditch and the twelfth user still have it. */
  private static void lastRoom() {
    fault(filled(9, 11), "d8.9.9;", NONE);
    fault(filled(9, 11), "d8.9.9;d9.9.9;", 7);
    fault(filled(9, 11), "d8.9.9;u9.1900.9;", NONE);
    fault(filled(9, 11), "u0.1900.9;t11.9;", NONE);
    fault(filled(9, 11), "u0.1900.9;u0.1900.9;", 10);
    fault(filled(10, 12), "d9.9.9;", 0);
    fault(filled(10, 12), "u9.1900.9;", 0);
    fault(filled(10, 11), "u9.1900.9;d9.9.9;", 10);
    fault(filled(9, 12), "d8.9.9;u9.1900.9;", 7);
    fault(filled(10, 12), "t11.9;s0-24.9;", NONE);
    IrrigationDistrict d = filled(10, 12);
    Check.write(d, "t11.24;s23-24.200;t0.24;");
    Check.due("36: turns and supply need no room", d.read(), 3);
    Check.due("36: the last user's turn", d.setTurn(11, 0), 24);
    Check.due("36: the last hour's supply", d.setSupply(23, 24, 0), 200);
    IrrigationDistrict fromNothing = new IrrigationDistrict();
    Check.write(fromNothing, "d0.9.9;".repeat(9));
    Check.due("36: nine ditches by one text", fromNothing.read(), 9);
    Check.due("11: ten", fromNothing.ditches(), 10);
    fromNothing.clearText();
    Check.write(fromNothing, "u9.1900.9;".repeat(10));
    Check.due("36: ten users in 100 bytes", fromNothing.read(), 10);
    Check.due("12: ten", fromNothing.users(), 10);
    Check.due("36: not ten more", fromNothing.read(), NOT_POSSIBLE);
    Check.due("35: only two of them", fromNothing.faultPosition(), 20);
    Check.due("12: and none is added", fromNothing.users(), 10);
  }

  /** The letter is before all that follows it, and before an end of the text. */
  private static void noRoomBeforeAllElse() {
    fault(filled(10, 12), "d", 0);
    fault(filled(10, 12), "u", 0);
    fault(filled(10, 12), "dx", 0);
    fault(filled(10, 12), "d10.201.51;", 0);
    fault(filled(10, 12), "u10.1799.61;", 0);
    fault(filled(10, 12), "t0.9;d", 5);
    fault(filled(10, 12), "x", 0);
    fault(filled(10, 12), "t", 1);
    fault(filled(9, 12), "d", 1);
    fault(filled(10, 11), "u", 1);
  }

  private static void ordersAreCarriedOutInOrder() {
    IrrigationDistrict d = small();
    Check.write(d, "s0-24.7;s3-5.200;s4-24.0;t1.24;t1.0;t0.3;");
    Check.due("36: six orders", d.read(), 6);
    int[] supply = {7, 7, 7, 200, 0, 0};
    for (int hour = 0; hour < supply.length; hour++) {
      Check.due("36: supply of hour " + hour, d.setSupply(hour, hour + 1, 1), supply[hour]);
    }
    Check.due("36: the last supply", d.setSupply(23, 24, 1), 0);
    Check.due("36: the later turn", d.setTurn(1, 1), 0);
    Check.due("36: the other turn", d.setTurn(0, 1), 3);
    IrrigationDistrict ends = new IrrigationDistrict();
    Check.write(ends, "d0.1.0;d1.200.50;u2.1800.0;u0.2099.60;u0.1800.60;");
    Check.due("36: the least and the greatest numbers", ends.read(), 5);
    Check.due("13: the oldest", ends.userByAge(0), 0);
    Check.due("13: of the same year, but younger", ends.userByAge(1), 2);
    Check.due("13: the youngest", ends.userByAge(2), 1);
    Check.due("3: gate 1", ends.setDitch(1, 200, 0), 1);
    Check.due("3: gate 200", ends.setDitch(2, 200, 50), 200);
    ends.setPond(1, 500, 0);
    Check.due("15: right 60", ends.asks(1), 60);
    ends.setPond(0, 500, 0);
    Check.due("15: right 0", ends.asks(0), 0);
  }

  /** "The text stays": it is read as often as it has no fault. */
  private static void readAgain() {
    IrrigationDistrict d = new IrrigationDistrict();
    Check.write(d, "d0.50.0;u0.1900.9;");
    for (int ditches = 2; ditches <= 10; ditches++) {
      Check.due("35: there is room", d.faultPosition(), NONE);
      Check.due("36: two orders", d.read(), 2);
      Check.due("36: ditches", d.ditches(), ditches);
      Check.due("36: users", d.users(), ditches - 1);
    }
    Check.due("36: no room", d.read(), NOT_POSSIBLE);
    Check.due("35: for the ditch", d.faultPosition(), 0);
    Check.due("36: and no user is added", d.users(), 9);
    Check.due("33: it can be gone on with", d.append('t'), 19);
    Check.due("34: and emptied", d.clearText(), 19);
    Check.due("36: with no orders then", d.read(), 0);
  }
}
