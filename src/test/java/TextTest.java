/** Promises 33 to 36: the text and its orders. */
final class TextTest {
  private static final int BAD_VALUE = IrrigationDistrict.BAD_VALUE;
  private static final int NOT_POSSIBLE = IrrigationDistrict.NOT_POSSIBLE;
  private static final int FULL = IrrigationDistrict.FULL;
  private static final int NONE = IrrigationDistrict.NONE;

  private TextTest() {
  }

  public static void main(String[] args) {
    append();
    clearText();
    formFaults();
    ditchFaults();
    userFaults();
    turnFaults();
    supplyFaults();
    everyByteElsewhere();
    ordersBefore();
    roomFaults();
    read();
    readKeepsText();
    readWithFault();
    nothingChanges();
    Check.finish();
  }

  private static void append() {
    IrrigationDistrict d = new IrrigationDistrict();
    Check.due("33: -1", d.append(-1), BAD_VALUE);
    Check.due("33: 128", d.append(128), BAD_VALUE);
    Check.due("33: extremes", d.append(Integer.MIN_VALUE) + d.append(Integer.MAX_VALUE), 2 * BAD_VALUE);
    Check.due("33: 0", d.append(0), 1);
    Check.due("33: 127", d.append(127), 2);
    for (int length = 3; length <= 100; length++) {
      Check.due("33: length", d.append(';'), length);
    }
    Check.due("33: full", d.append(';'), FULL);
    Check.due("33: value before full", d.append(128), BAD_VALUE);
    Check.due("33: a fault at once", d.faultPosition(), 0);
    Check.due("34: 100", d.clearText(), 100);
    Check.due("33: from the beginning", d.append('d'), 1);
  }

  private static void clearText() {
    IrrigationDistrict d = new IrrigationDistrict();
    Check.due("34: empty", d.clearText(), 0);
    Check.write(d, "x0.1");
    Check.due("34: four", d.clearText(), 4);
    Check.due("34: none left", d.clearText(), 0);
    Check.due("35: empty text", d.faultPosition(), NONE);
    Check.write(d, "d0.5.5;");
    Check.due("36: what was cleared is gone", d.read(), 1);
  }

  /** The district of the fault tests has the ditches 0 and 1 and the users 0 and 1. */
  private static void fault(String text, int due) {
    IrrigationDistrict d = small();
    Check.write(d, text);
    Check.due("35: " + text, d.faultPosition(), due);
    if (due != NONE) Check.due("36: " + text, d.read(), NOT_POSSIBLE);
    else Check.holds("36: " + text, d.read() >= 0);
  }

  private static IrrigationDistrict small() {
    IrrigationDistrict d = new IrrigationDistrict();
    d.addDitch(0, 50, 0);
    d.addUser(0, 1900, 20);
    d.addUser(1, 1950, 30);
    d.setField(1, 25, 0, 24);
    return d;
  }

  private static void formFaults() {
    fault("", NONE);
    fault(";", 0);
    fault("x", 0);
    fault("D0.50.10;", 0);
    fault(" d0.50.10;", 0);
    fault("d0.50.10; ", 9);
    fault("d0.50.10;;", 9);
    fault("0", 0);
    String[] orders = {"d0.50.10;", "u0.1900.20;", "t0.12;", "s0-24.70;"};
    for (String order : orders) {
      fault(order, NONE);
      for (int end = 1; end < order.length(); end++) {
        // "19" is no year, and is a fault before the text ends too early.
        if (order.charAt(0) == 'u' && end > 3 && end < 7) fault(order.substring(0, end), 3);
        else fault(order.substring(0, end), end);
      }
      fault("t0.1;" + order, NONE);
      fault("t0.1;" + order + "t", 6 + order.length());
    }
  }

  private static void ditchFaults() {
    fault("d1.1.0;", NONE);
    fault("d0.200.50;", NONE);
    fault("d2.50.10;", 1);
    fault("d10.50.10;", 1);
    fault("d00.50.10;", 1);
    fault("d01.50.10;", 1);
    fault("d-1.50.10;", 1);
    fault("d.50.10;", 1);
    fault("d0,50.10;", 2);
    fault("d0.0.10;", 3);
    fault("d0.201.10;", 3);
    fault("d0.050.10;", 3);
    fault("d0..10;", 3);
    fault("d0.50;", 5);
    fault("d0.50.51;", 6);
    fault("d0.50.010;", 6);
    fault("d0.50.;", 6);
    fault("d0.50.10.", 8);
    fault("d0.50.100;", 6);
    fault("d9", 1);
    fault("d0.4294967346.10;", 3);
    fault("d0.18446744073709551666.10;", 3);
    fault("d4294967296.50.10;", 1);
  }

  private static void userFaults() {
    fault("u1.1800.0;", NONE);
    fault("u0.2099.60;", NONE);
    fault("u2.1900.20;", 1);
    fault("u00.1900.20;", 1);
    fault("u.1900.20;", 1);
    fault("u0-1900.20;", 2);
    fault("u0.1799.20;", 3);
    fault("u0.2100.20;", 3);
    fault("u0.01900.20;", 3);
    fault("u0.19000.20;", 3);
    fault("u0.190", 3);
    fault("u0.1900;", 7);
    fault("u0.1900.61;", 8);
    fault("u0.1900.020;", 8);
    fault("u0.1900.00;", 8);
    fault("u0.1900.20", 10);
    fault("u0.1900.20u", 10);
  }

  private static void turnFaults() {
    fault("t1.0;", NONE);
    fault("t0.24;", NONE);
    fault("t2.5;", 1);
    fault("t01.5;", 1);
    fault("t.5;", 1);
    fault("t0;", 2);
    fault("t0.25;", 3);
    fault("t0.00;", 3);
    fault("t0.;", 3);
    fault("t0.5.5;", 4);
    fault("t12.5;", 1);
  }

  private static void supplyFaults() {
    fault("s0-1.0;", NONE);
    fault("s23-24.200;", NONE);
    fault("s24-24.70;", 1);
    fault("s24-25.70;", 1);
    fault("s06-18.70;", 1);
    fault("s-18.70;", 1);
    fault("s6.18.70;", 2);
    fault("s6-6.70;", 3);
    fault("s6-5.70;", 3);
    fault("s6-25.70;", 3);
    fault("s6-07.70;", 3);
    fault("s6-.70;", 3);
    fault("s6-0.70;", 3);
    fault("s6-18-70;", 5);
    fault("s6-18.201;", 6);
    fault("s6-18.070;", 6);
    fault("s6-18.;", 6);
    fault("s6-18.70.", 8);
    fault("s9-10.1;", NONE);
  }

  private static void everyByteElsewhere() {
    for (int letter = 0; letter < 128; letter++) {
      IrrigationDistrict d = new IrrigationDistrict();
      d.append(letter);
      boolean begins = letter == 'd' || letter == 'u' || letter == 't' || letter == 's';
      Check.due("35: first byte " + letter, d.faultPosition(), begins ? 1 : 0);
      d.clearText();
      Check.write(d, "d0");
      d.append(letter);
      // A digit behind the 0 makes a number that begins with 0.
      boolean digit = letter >= '0' && letter <= '9';
      Check.due("35: third byte " + letter, d.faultPosition(), digit ? 1 : letter == '.' ? 3 : 2);
    }
  }

  private static void ordersBefore() {
    fault("d1.50.0;d2.50.0;u3.1900.5;t2.5;", NONE);
    fault("d2.50.0;d2.50.0;", 1);
    fault("u2.1900.5;d1.50.0;", 1);
    fault("t2.5;u0.1900.5;", 1);
    fault("u0.1900.5;t2.5;t3.5;", 16);
    fault("d0.5.5;d0.5.51;d9.5.5;", 12);
  }

  private static void roomFaults() {
    IrrigationDistrict d = new IrrigationDistrict();
    for (int i = 1; i < 9; i++) {
      d.addDitch(0, 50, 0);
    }
    for (int i = 0; i < 11; i++) {
      d.addUser(0, 1900, 5);
    }
    Check.write(d, "d8.5.5;u9.1900.5;");
    Check.due("35: room for the last ones", d.faultPosition(), NONE);
    Check.write(d, "t11.5;");
    Check.due("35: the last user", d.faultPosition(), NONE);
    Check.write(d, "d");
    Check.due("35: no room for a ditch", d.faultPosition(), 23);
    d.clearText();
    Check.write(d, "d8.5.5;u9.1900.5;u99.9.9;");
    Check.due("35: no room for a user", d.faultPosition(), 17);
    Check.due("36: no room", d.read(), NOT_POSSIBLE);
    Check.due("36: and nothing is added", d.ditches() * 100 + d.users(), 911);
    d.clearText();
    Check.write(d, "d8.5.5;u9.1900.5;");
    Check.due("36: both", d.read(), 2);
    Check.due("36: full", d.ditches() * 100 + d.users(), 1012);
    Check.due("36: not once more", d.read(), NOT_POSSIBLE);
    Check.due("35: since there is no room now", d.faultPosition(), 0);
  }

  private static void read() {
    IrrigationDistrict d = new IrrigationDistrict();
    Check.due("36: no orders", d.read(), 0);
    Check.write(d, "d0.60.10;u1.1950.25;u0.1900.7;t0.5;s3-6.41;s5-7.42;t0.6;");
    Check.due("36: seven orders", d.read(), 7);
    Check.due("36: ditches", d.ditches(), 2);
    Check.due("36: users", d.users(), 2);
    Check.due("36: years", d.userByAge(0), 1);
    Check.due("36: the later turn", d.setTurn(0, 0), 6);
    Check.due("36: the other turn", d.setTurn(1, 0), 0);
    int[] supply = {100, 100, 100, 41, 41, 42, 42, 100};
    for (int hour = 0; hour < supply.length; hour++) {
      Check.due("36: supply of hour " + hour, d.setSupply(hour, hour + 1, 100), supply[hour]);
    }
    d.setField(0, 60, 0, 24);
    d.setField(1, 60, 0, 24);
    Check.due("36: right of user 0", d.asks(0), 25);
    Check.due("36: right of user 1", d.asks(1), 7);
    // 25 units need 28, of which 2.8 are lost; 7 more are for the user at ditch 0.
    Check.due("36: loss", d.loses(1), 3);
    Check.due("36: ditches of the users", d.inflow(0), 35);
    Check.due("36: gate", d.setDitch(1, 60, 0), 60);
  }

  private static void readKeepsText() {
    IrrigationDistrict d = new IrrigationDistrict();
    Check.write(d, "d0.60.10;u1.1950.25;");
    Check.due("36: once", d.read(), 2);
    Check.due("36: twice", d.read(), 2);
    Check.due("36: ditches", d.ditches(), 3);
    Check.due("36: users", d.users(), 2);
    Check.due("36: the text stays", d.clearText(), 20);
    IrrigationDistrict full = new IrrigationDistrict();
    full.addUser(0, 1900, 10);
    for (int i = 0; i < 20; i++) {
      Check.write(full, "t0.9;");
    }
    Check.due("36: twenty orders in 100 bytes", full.read(), 20);
    Check.due("33: and full", full.append('t'), FULL);
    Check.due("36: done", full.setTurn(0, 1), 9);
  }

  private static void readWithFault() {
    IrrigationDistrict d = small();
    Check.write(d, "d0.60.10;u1.1850.25;t0.7;s0-24.7;t0.25;");
    Check.due("36: fault at the end", d.read(), NOT_POSSIBLE);
    Check.due("35: there", d.faultPosition(), 36);
    Check.due("36: no ditch", d.ditches(), 2);
    Check.due("36: no user", d.users(), 2);
    Check.due("36: ages", d.userByAge(0), 0);
    Check.due("36: no turn", d.setTurn(0, 0), 0);
    Check.due("36: no supply", d.setSupply(0, 24, 100), 100);
    Check.due("36: the text stays", d.clearText(), 39);
  }

  private static void nothingChanges() {
    Check.changesNothing("33 to 36: errors and questions", () -> withText("d0.60.10;u1.1850.25;t2.7;s0-24.7"), d -> {
      Check.due("33: error", d.append(128), BAD_VALUE);
      Check.due("36: error", d.read(), NOT_POSSIBLE);
      Check.due("35: ends too early", d.faultPosition(), 32);
    });
    Check.changesNothing("35: fault position", () -> withText("d0.60.10;u1.1850.25;t2.7;s0-24.7;"), d -> {
      Check.due("35: no fault", d.faultPosition(), NONE);
    });
    Check.changesNothing("33: full", () -> withText("t0.5;".repeat(20)), d -> {
      Check.due("33: full", d.append('t'), FULL);
    });
  }

  private static IrrigationDistrict withText(String text) {
    IrrigationDistrict d = small();
    Check.write(d, text);
    return d;
  }
}
