/** Districts in the middle of their work, for tests of what calls change and what they do not. */
final class Districts {
  private Districts() {
  }

  /**
   * Four ditches and five users, none with its first settings. The users 0 and 3 are shut off, slot 0 and the
   * text are in use, and slot 1 is empty.
   */
  static IrrigationDistrict rich() {
    IrrigationDistrict d = new IrrigationDistrict();
    d.setDitch(0, 90, 3);
    d.addDitch(0, 60, 10);
    d.addDitch(1, 30, 1);
    d.addDitch(0, 40, 20);
    int[][] users = {{1, 1950, 40}, {2, 1900, 25}, {3, 1920, 30}, {0, 1950, 20}, {2, 1875, 15}};
    int[][] fields = {{30, 0, 24}, {25, 1, 24}, {20, 2, 22}, {15, 0, 18}, {20, 0, 23}};
    int[][] ponds = {{40, 1}, {60, 2}, {200, 5}, {9, 0}, {33, 3}};
    int[] turns = {2, 0, 3, 1, 0};
    for (int i = 0; i < users.length; i++) {
      d.addUser(users[i][0], users[i][1], users[i][2]);
      d.setField(i, fields[i][0], fields[i][1], fields[i][2]);
      d.setPond(i, ponds[i][0], ponds[i][1]);
      d.setTurn(i, turns[i]);
    }
    for (int hour = 0; hour < 24; hour++) {
      d.setSupply(hour, hour + 1, supplyOfRich(hour));
    }
    d.advance(2);
    d.save(0);
    d.setFutile(20);
    d.setRule(IrrigationDistrict.IN_PROPORTION);
    d.advance(3);
    d.settle();
    Check.write(d, "d0.50.5;t1.4;");
    return d;
  }

  static int supplyOfRich(int hour) {
    return 70 + 7 * hour % 40;
  }

  /** Ten ditches, each but the first one behind the other, twelve users, and both slots in use. */
  static IrrigationDistrict full() {
    IrrigationDistrict d = new IrrigationDistrict();
    for (int ditch = 1; ditch < 10; ditch++) {
      d.addDitch(ditch - 1, 110 - 9 * ditch, ditch % 4);
    }
    for (int user = 0; user < 12; user++) {
      d.addUser(user % 10, 1999 - user * 5 % 7, 5 + user);
      d.setField(user, 3 * user, 0, 12 + user);
      d.setPond(user, 7 * user, user % 3);
    }
    d.setTurn(2, 4);
    d.setTurn(9, 2);
    d.save(0);
    d.setRule(IrrigationDistrict.BY_TURNS);
    d.advance(7);
    d.save(1);
    d.settle();
    Check.write(d, "t11.5;");
    return d;
  }

  /** Two ditches, two users, and a text of 100 bytes without a fault. */
  static IrrigationDistrict fullText() {
    IrrigationDistrict d = new IrrigationDistrict();
    d.addDitch(0, 50, 10);
    for (int user = 0; user < 2; user++) {
      d.addUser(user, 1900 + user, 40);
      d.setField(user, 40, 0, 24);
    }
    Check.write(d, "t1.9;".repeat(20));
    return d;
  }

  /** Changes all that a district with at least two ditches has but its text and its slots. */
  static void upset(IrrigationDistrict d) {
    d.advance(11);
    d.setDitch(0, 55, 5);
    d.setDitch(1, 44, 4);
    d.addDitch(1, 33, 3);
    d.addUser(2, 1800, 22);
    int users = d.users();
    for (int user = 0; user < users; user++) {
      d.setField(user, 11, 1, 23);
      d.setPond(user, 111, 1);
      d.setTurn(user, 1);
    }
    d.setSupply(0, 24, 77);
    d.setRule(IrrigationDistrict.BY_TURNS);
    d.setFutile(66);
    d.advance(2);
    d.settle();
  }
}
