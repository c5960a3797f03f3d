/** The sentences of the Description on the distribution, the passing of an hour and the account, at their edges. */
final class DistributionSentencesTest {
  private static final int BAD_INDEX = IrrigationDistrict.BAD_INDEX;
  private static final int NOT_POSSIBLE = IrrigationDistrict.NOT_POSSIBLE;
  private static final int NONE = IrrigationDistrict.NONE;
  private static final int BY_TURNS = IrrigationDistrict.BY_TURNS;
  private static final int IN_PROPORTION = IrrigationDistrict.IN_PROPORTION;

  private DistributionSentencesTest() {
  }

  public static void main(String[] args) {
    smallerOneOfRightAndNeed();
    roomOfThePond();
    possibleUpToGateAndSupply();
    servedThroughLossyDitches();
    limitsOfLossyDitches();
    oldestFirst();
    turnsBeginAgain();
    turnsOfTwelve();
    turnsFromTimeZero();
    turnWithoutRight();
    othersByAgeAfterTheTurn();
    allTurnsZero();
    proportionIsTruncated();
    greatestOfAllNumbers();
    proportionByInflows();
    proportionOfTheFullDistrict();
    atLeastAsMuchAsItHas();
    fieldUsesIfThereIsSoMuch();
    leakIfThereIsSoMuch();
    pondIsFullAfterTheLeak();
    accountOfAllHours();
    emptyDistrictInTime();
    forecastEnds();
    ends();
    lastCall();
    Check.finish();
  }

  /** A user with a field that needs so much in each hour. */
  private static int addUser(IrrigationDistrict d, int ditch, int year, int right, int need) {
    int user = d.addUser(ditch, year, right);
    d.setField(user, need, 0, 24);
    return user;
  }

  private static void gets(String what, IrrigationDistrict d, int... due) {
    for (int user = 0; user < due.length; user++) {
      Check.due("16: " + what + ", user " + user, d.gets(user), due[user]);
    }
  }

  /** "the smaller one of its right and of what its field needs in this hour plus the room of its pond". */
  private static void smallerOneOfRightAndNeed() {
    IrrigationDistrict d = new IrrigationDistrict();
    d.setDitch(0, 200, 0);
    d.setSupply(0, 24, 200);
    int[] rights = {0, 1, 19, 20, 21, 60};
    for (int right : rights) {
      int user = addUser(d, 0, 1900, right, 12);
      d.setPond(user, 8, 0);
      Check.due("15: a right to " + right, d.asks(user), Math.min(right, 20));
      Check.due("16: a right to " + right, d.gets(user), Math.min(right, 20));
    }
    d.setField(5, 0, 0, 24);
    Check.due("15: the room alone", d.asks(5), 8);
    d.setPond(5, 500, 0);
    Check.due("15: the greatest room", d.asks(5), 60);
    d.setField(5, 60, 0, 24);
    d.setPond(5, 0, 0);
    Check.due("15: the need alone", d.asks(5), 60);
    d.setField(5, 0, 0, 24);
    Check.due("15: neither", d.asks(5), 0);
  }

  /** "the room of its pond (its capacity less its content)". */
  private static void roomOfThePond() {
    IrrigationDistrict d = new IrrigationDistrict();
    addUser(d, 0, 1900, 30, 0);
    d.setPond(0, 61, 0);
    int[] asked = {30, 30, 1, 0, 0};
    int[] content = {0, 30, 60, 61, 61};
    for (int hour = 0; hour < asked.length; hour++) {
      Check.due("25: content of hour " + hour, d.pond(0), content[hour]);
      Check.due("15: room of hour " + hour, d.asks(0), asked[hour]);
      d.advance(1);
    }
    d.setField(0, 7, 0, 24);
    Check.due("15: full, the need alone", d.asks(0), 7);
  }

  /** "no ditch has more inflow than its gate lets in, and ditch 0 not more than the supply of this hour". */
  private static void possibleUpToGateAndSupply() {
    int[][] cases = {{50, 50, 50}, {50, 51, 50}, {51, 50, 50}, {49, 50, 49}, {50, 49, 49}, {200, 50, 50}, {50, 200, 50},
        {1, 200, 1}, {200, 0, 0}, {1, 1, 1}};
    for (int[] c : cases) {
      IrrigationDistrict d = new IrrigationDistrict();
      d.setDitch(0, c[0], 0);
      d.setSupply(0, 24, c[1]);
      addUser(d, 0, 1900, 60, 50);
      String what = "gate " + c[0] + ", supply " + c[1];
      Check.due("16: " + what, d.gets(0), c[2]);
      Check.due("17: " + what, d.inflow(0), c[2]);
      Check.due("20: " + what, d.limit(0), c[2] == 50 ? NOT_POSSIBLE : c[0] == c[2] ? 0 : NONE);
    }
  }

  /** "with the inflows that the ditches need to pass on what the users at them get and what their ditches need". */
  private static void servedThroughLossyDitches() {
    IrrigationDistrict d = new IrrigationDistrict();
    d.setDitch(0, 100, 20);
    d.setSupply(0, 24, 50);
    d.addDitch(0, 60, 10);
    d.addDitch(0, 60, 0);
    addUser(d, 1, 1900, 60, 10);
    addUser(d, 2, 1910, 60, 8);
    addUser(d, 1, 1920, 60, 60);
    addUser(d, 0, 1930, 60, 60);
    // 50 pass on 40, of which 8 are for ditch 2; 32 pass on 28, of which 10 are user 0's.
    gets("lossy ditches", d, 10, 8, 18, 0);
    Check.due("17: ditch 1", d.inflow(1), 32);
    Check.due("17: ditch 0", d.inflow(0), 50);
    Check.due("18: ditch 1", d.loses(1), 4);
    Check.due("18: ditch 0", d.loses(0), 10);
    Check.due("20: by the supply", d.limit(2), NONE);
    d.setDitch(1, 60, 50);
    // User 0 needs 20, and 12 more are left for ditch 1: they pass on 6.
    gets("a greater loss", d, 10, 8, 6, 0);
    d.setSupply(0, 24, 51);
    // 51 pass on 40, too (10.2 are lost, so 11).
    gets("one more unit that is lost", d, 10, 8, 6, 0);
    d.setSupply(0, 24, 52);
    // 41: one unit would all be lost in ditch 1.
    gets("one more unit that nobody older can use", d, 10, 8, 6, 1);
  }

  /** "the ditch whose inflow would be more than its gate lets in": of the inflow, not of what it passes on. */
  private static void limitsOfLossyDitches() {
    IrrigationDistrict d = new IrrigationDistrict();
    d.setDitch(0, 100, 20);
    d.addDitch(0, 32, 10);
    addUser(d, 1, 1900, 60, 60);
    // The gate 32 passes on 28; 29 need 33.
    gets("by its gate", d, 28);
    Check.due("20: its gate", d.limit(0), 1);
    d.setDitch(1, 33, 10);
    gets("a wider gate", d, 29);
    d.setDitch(0, 42, 20);
    // 42 pass on 33; 30 need 34, and these 43.
    Check.due("20: both, its own is nearer", d.limit(0), 1);
    d.setDitch(1, 34, 10);
    Check.due("20: ditch 0", d.limit(0), 0);
    d.setSupply(0, 24, 42);
    Check.due("20: ditch 0 before the supply", d.limit(0), 0);
    d.setDitch(0, 43, 20);
    Check.due("20: the supply", d.limit(0), NONE);
    d.setSupply(0, 24, 43);
    gets("one more", d, 30);
    Check.due("20: both again", d.limit(0), 1);
  }

  /** "beginning with no amounts, the users are served, the oldest one first". */
  private static void oldestFirst() {
    IrrigationDistrict d = new IrrigationDistrict();
    for (int user = 0; user < 12; user++) {
      addUser(d, 0, 1811 - user, 60, 10);
    }
    for (int supply = 0; supply <= 120; supply += 5) {
      d.setDitch(0, 200, 0);
      d.setSupply(0, 1, supply);
      for (int user = 0; user < 12; user++) {
        int left = supply - 10 * (11 - user);
        Check.due("16: supply " + supply + ", user " + user, d.gets(user), Math.max(0, Math.min(10, left)));
      }
    }
  }

  /** "The turns follow one another in the order of the numbers of the users, and then begin again". */
  private static void turnsBeginAgain() {
    IrrigationDistrict one = new IrrigationDistrict();
    addUser(one, 0, 1900, 10, 10);
    addUser(one, 0, 1850, 10, 10);
    one.setRule(BY_TURNS);
    one.setTurn(1, 1);
    for (int hour = 0; hour < 5; hour++) {
      Check.due("19: a round of one hour", one.turn(), 1);
      one.advance(1);
    }
    one.setTurn(1, 24);
    one.setTurn(0, 24);
    int[] hours = {5, 23, 24, 47, 48, 71, 72, 95, 96};
    int[] due = {0, 0, 1, 1, 0, 0, 1, 1, 0};
    for (int i = 0; i < hours.length; i++) {
      if (hours[i] > one.time()) one.advance(hours[i] - one.time());
      Check.due("19: turns of a day at " + hours[i], one.turn(), due[i]);
    }
    one.setTurn(0, 23);
    // 96 is 2 rounds of 47, and 2 hours.
    Check.due("19: a round of 47 hours", one.turn(), 0);
    one.advance(20);
    Check.due("19: its last hour", one.turn(), 0);
    one.advance(1);
    Check.due("19: the first hour of the next one", one.turn(), 1);
    one.advance(23);
    Check.due("19: the last hour of the round", one.turn(), 1);
    one.advance(1);
    Check.due("19: the round begins again", one.turn(), 0);
  }

  /** The longest round: twelve turns of 24 hours. */
  private static void turnsOfTwelve() {
    IrrigationDistrict d = new IrrigationDistrict();
    d.setRule(BY_TURNS);
    for (int user = 0; user < 12; user++) {
      addUser(d, 0, 2000 - user, 1, 60);
      d.setTurn(user, 24);
    }
    for (int day = 0; day < 14; day++) {
      Check.due("19: first hour of day " + day, d.turn(), day % 12);
      Check.due("15: it asks without its right", d.asks(day % 12), 60);
      d.advance(23);
      Check.due("19: last hour of day " + day, d.turn(), day % 12);
      Check.due("15: the next one by its right", d.asks((day + 1) % 12), 1);
      d.advance(1);
    }
  }

  /** "from the time 0 on": what is set later counts as if it had been so from then on. */
  private static void turnsFromTimeZero() {
    IrrigationDistrict d = new IrrigationDistrict();
    for (int user = 0; user < 3; user++) {
      addUser(d, 0, 1900, 5, 5);
    }
    d.advance(5);
    d.setRule(BY_TURNS);
    d.setTurn(1, 2);
    d.setTurn(2, 1);
    Check.due("19: 5 is the third hour of the round", d.turn(), 2);
    d.setTurn(0, 1);
    Check.due("19: 5 is the second hour of the round of four", d.turn(), 1);
    d.setTurn(0, 6);
    Check.due("19: 5 is the sixth hour of the round of nine", d.turn(), 0);
    d.addUser(0, 1800, 5);
    Check.due("19: one without a turn changes nothing", d.turn(), 0);
  }

  /** "In its turn, a user asks for what its field needs plus the room of its pond, whatever its right is". */
  private static void turnWithoutRight() {
    IrrigationDistrict d = new IrrigationDistrict();
    addUser(d, 0, 1900, 0, 60);
    d.setPond(0, 500, 0);
    d.setRule(BY_TURNS);
    d.setTurn(0, 1);
    Check.due("15: the most that can be asked for", d.asks(0), 560);
    gets("what there is", d, 100);
    Check.due("20: by the gate", d.limit(0), 0);
    Check.due("21: with no supply", d.leastSupply(0), NONE);
    d.setDitch(0, 200, 0);
    d.setSupply(0, 24, 200);
    gets("the greatest supply", d, 200);
    Check.due("20: by the gate", d.limit(0), 0);
    d.setPond(0, 140, 0);
    gets("just the greatest supply", d, 200);
    Check.due("20: all", d.limit(0), NOT_POSSIBLE);
    Check.due("21: all of it", d.leastSupply(0), 200);
    d.setPond(0, 141, 0);
    Check.due("21: one too many", d.leastSupply(0), NONE);
    d.advance(1);
    Check.due("25: what the field left", d.pond(0), 140);
    Check.due("15: need and room", d.asks(0), 61);
  }

  /** "and is served first; then all others are served, the oldest one first". */
  private static void othersByAgeAfterTheTurn() {
    IrrigationDistrict d = new IrrigationDistrict();
    addUser(d, 0, 1990, 10, 40);
    addUser(d, 0, 1800, 30, 30);
    addUser(d, 0, 1900, 20, 20);
    d.setRule(BY_TURNS);
    d.setTurn(0, 1);
    d.setTurn(1, 1);
    d.setTurn(2, 1);
    d.setSupply(0, 24, 75);
    gets("the youngest in its turn", d, 40, 30, 5);
    d.advance(1);
    gets("the oldest in its turn", d, 10, 30, 20);
    d.setSupply(0, 24, 50);
    gets("the oldest in its turn, by a small supply", d, 0, 30, 20);
    d.advance(1);
    gets("the middle one in its turn", d, 0, 30, 20);
    d.setSupply(0, 24, 49);
    gets("the middle one is served first", d, 0, 29, 20);
    d.setSupply(0, 24, 19);
    gets("the middle one alone", d, 0, 0, 19);
  }

  /** "If all turns are 0, it is as BY_AGE", also without users. */
  private static void allTurnsZero() {
    IrrigationDistrict d = new IrrigationDistrict();
    d.setRule(BY_TURNS);
    Check.due("19: without users", d.turn(), NONE);
    addUser(d, 0, 1900, 30, 60);
    addUser(d, 0, 1800, 30, 60);
    d.setSupply(0, 24, 45);
    Check.due("19: all are 0", d.turn(), NONE);
    gets("as by age", d, 15, 30);
    Check.due("15: by its right", d.asks(0), 30);
    d.setTurn(0, 1);
    gets("with a turn", d, 45, 0);
    d.setTurn(0, 0);
    Check.due("19: all are 0 again", d.turn(), NONE);
    gets("as by age again", d, 15, 30);
  }

  /** "the amounts ask * k / 100, truncated, where k is the greatest number". */
  private static void proportionIsTruncated() {
    IrrigationDistrict d = new IrrigationDistrict();
    d.setRule(IN_PROPORTION);
    d.setSupply(0, 24, 1);
    addUser(d, 0, 1900, 50, 50);
    addUser(d, 0, 1950, 60, 60);
    // 2 % are 1 and 1 (1.2), 1 % are none: k is 1, and the unit goes to the oldest.
    gets("one unit", d, 1, 0);
    d.setSupply(0, 24, 2);
    gets("two units", d, 1, 1);
    IrrigationDistrict e = new IrrigationDistrict();
    e.setRule(IN_PROPORTION);
    e.setSupply(0, 24, 1);
    addUser(e, 0, 1950, 33, 33);
    addUser(e, 0, 1900, 26, 26);
    // 4 % are 1 (1.32) and 1 (1.04), 3 % are none (0.99).
    gets("three of the hundred are none", e, 0, 1);
    e.setSupply(0, 24, 58);
    // 99 % are 32 (32.67) and 25 (25.74); the rest of it is the oldest one's.
    gets("99 of the hundred", e, 32, 26);
    e.setSupply(0, 24, 59);
    gets("all", e, 33, 26);
    e.setSupply(0, 24, 0);
    gets("nothing", e, 0, 0);
  }

  /**
   * "where k is the greatest number from 0 to 100": two users who ask for the same share all supplies. Each k from 2
   * on is the least one with its amounts for some of them; below it, all shares of 60 units and less are nothing.
   */
  private static void greatestOfAllNumbers() {
    boolean[] begins = new boolean[101];
    for (int ask = 1; ask <= 60; ask++) {
      IrrigationDistrict d = new IrrigationDistrict();
      d.setDitch(0, 200, 0);
      d.setRule(IN_PROPORTION);
      addUser(d, 0, 1950, 60, ask);
      addUser(d, 0, 1900, 60, ask);
      for (int supply = 0; supply <= 2 * ask; supply++) {
        d.setSupply(0, 1, supply);
        int k = 100;
        while (2 * (ask * k / 100) > supply) {
          k--;
        }
        int share = ask * k / 100;
        String what = "16: each asks for " + ask + " of " + supply;
        Check.due(what + ", the younger one", d.gets(0), Math.max(share, supply - ask));
        Check.due(what + ", the older one", d.gets(1), Math.min(ask, supply - share));
      }
      for (int k = 1; k <= 100; k++) {
        if (ask * k / 100 > ask * (k - 1) / 100) begins[k] = true;
      }
    }
    for (int k = 2; k <= 100; k++) {
      Check.holds("16: there is a share that begins with " + k, begins[k]);
    }
  }

  /** "with which these amounts are possible": by the inflows, not by what is passed on. */
  private static void proportionByInflows() {
    IrrigationDistrict d = new IrrigationDistrict();
    d.setRule(IN_PROPORTION);
    d.addDitch(0, 20, 50);
    addUser(d, 1, 1900, 20, 20);
    addUser(d, 1, 1950, 20, 20);
    addUser(d, 0, 1990, 20, 20);
    gets("the gate 20 passes on 10", d, 5, 5, 20);
    d.setDitch(1, 22, 50);
    gets("and 22 pass on 11, one for the oldest", d, 6, 5, 20);
    IrrigationDistrict e = new IrrigationDistrict();
    e.setRule(IN_PROPORTION);
    e.setDitch(0, 100, 50);
    e.setSupply(0, 24, 20);
    addUser(e, 0, 1900, 20, 20);
    addUser(e, 0, 1950, 20, 20);
    gets("the supply 20 passes on 10", e, 5, 5);
    e.setSupply(0, 24, 100);
    e.setDitch(0, 20, 50);
    gets("so does the gate 20", e, 5, 5);
  }

  /** Ten ditches and twelve users: all are reckoned with, the last ones, too. */
  private static void proportionOfTheFullDistrict() {
    IrrigationDistrict d = new IrrigationDistrict();
    d.setDitch(0, 200, 0);
    d.setSupply(0, 24, 200);
    for (int ditch = 1; ditch < 10; ditch++) {
      d.addDitch(0, 200, 0);
    }
    for (int user = 0; user < 12; user++) {
      addUser(d, user < 10 ? user : 9, 1900 + user, 50, 50);
    }
    d.setRule(IN_PROPORTION);
    // 33 % are 16 (16.5) for each of twelve: 192, and 34 % are 17: 204. The oldest one takes the 8 that are left.
    gets("by the supply", d, 24, 16, 16, 16, 16, 16, 16, 16, 16, 16, 16, 16);
    d.setDitch(9, 24, 0);
    // The three at ditch 9 have 8 each with 17 %; the others fill up: 9 * 8 and 8 are 96, 104 are left.
    gets("by the gate of the last ditch", d, 50, 50, 28, 8, 8, 8, 8, 8, 8, 8, 8, 8);
    IrrigationDistrict wide = new IrrigationDistrict();
    for (int ditch = 1; ditch < 10; ditch++) {
      wide.addDitch(ditch - 1, ditch < 9 ? 200 : 10, 0);
    }
    addUser(wide, 9, 1900, 20, 20);
    wide.setRule(IN_PROPORTION);
    addUser(wide, 0, 1950, 20, 20);
    gets("more ditches than users", wide, 10, 20);
  }

  /** "and at least as much as it has already": what the shares give is not taken for the oldest one. */
  private static void atLeastAsMuchAsItHas() {
    IrrigationDistrict d = new IrrigationDistrict();
    d.setRule(IN_PROPORTION);
    d.setSupply(0, 24, 40);
    addUser(d, 0, 1800, 60, 60);
    addUser(d, 0, 1900, 20, 20);
    gets("half of it", d, 30, 10);
    d.setRule(IrrigationDistrict.BY_AGE);
    gets("by age", d, 40, 0);
  }

  /** "of this the field uses as much as it needs, if there is so much; the rest is the new content of the pond". */
  private static void fieldUsesIfThereIsSoMuch() {
    for (int supply = 18; supply <= 22; supply++) {
      IrrigationDistrict d = new IrrigationDistrict();
      addUser(d, 0, 1900, 60, 0);
      d.setPond(0, 10, 0);
      d.advance(1);
      d.setField(0, 30, 0, 24);
      d.setSupply(0, 24, supply);
      // 10 are in the pond, and 30 are needed: with 20 there is just so much.
      int used = Math.min(30, supply + 10);
      Check.due("23: supply " + supply, d.advance(1), 30 - used);
      Check.due("26: supply " + supply, d.missed(0), 30 - used);
      Check.due("24: used with the supply " + supply, d.account(4), used);
      Check.due("25: supply " + supply, d.pond(0), supply + 10 - used);
    }
  }

  /** "of which then as much as the leak is lost, if there is so much". */
  private static void leakIfThereIsSoMuch() {
    int[] contents = {0, 1, 19, 20, 21, 60};
    for (int content : contents) {
      IrrigationDistrict d = new IrrigationDistrict();
      addUser(d, 0, 1900, 60, 0);
      d.setPond(0, content, 20);
      d.advance(1);
      Check.due("25: 20 less than " + content, d.pond(0), Math.max(0, content - 20));
      Check.due("24: leaked of " + content, d.account(5), Math.min(20, content));
    }
    IrrigationDistrict d = new IrrigationDistrict();
    addUser(d, 0, 1900, 60, 0);
    d.setPond(0, 60, 0);
    d.advance(1);
    d.setSupply(0, 24, 0);
    d.setPond(0, 60, 20);
    d.setField(0, 35, 0, 24);
    d.advance(1);
    Check.due("25: the field has it first", d.pond(0), 5);
    Check.due("24: all of the leak", d.account(5), 20);
    Check.due("23: five are left for the field", d.advance(1), 30);
    Check.due("25: and none for the leak", d.pond(0), 0);
    Check.due("24: no more than that", d.account(5), 20);
  }

  /** "until its pond is full (at the end of an hour, after what leaks), 0 if it is full already". */
  private static void pondIsFullAfterTheLeak() {
    IrrigationDistrict d = new IrrigationDistrict();
    addUser(d, 0, 1900, 25, 0);
    d.setPond(0, 50, 1);
    // 24, 48, 49: it is asked for 2, and then for 1 again and again.
    Check.due("28: never after what leaks", d.hoursToFull(0), NONE);
    d.advance(3);
    Check.due("25: one less than full", d.pond(0), 49);
    d.setPond(0, 49, 1);
    Check.due("28: full already", d.hoursToFull(0), 0);
    d.advance(1);
    Check.due("28: not after one more hour", d.hoursToFull(0), NONE);
    d.setPond(0, 49, 0);
    Check.due("28: after one hour without a leak", d.hoursToFull(0), 1);
    d.setPond(0, 0, 20);
    Check.due("28: full with nothing", d.hoursToFull(0), 0);
  }

  /** "counts, over all hours that have passed": nothing begins again with a day, and all water is told of. */
  private static void accountOfAllHours() {
    IrrigationDistrict d = Districts.rich();
    int[] before = new int[7];
    int content = contents(d);
    for (int what = 0; what < 7; what++) {
      before[what] = d.account(what);
    }
    int[] more = new int[7];
    for (int hour = 0; hour < 30; hour++) {
      more[0] += d.inflow(0);
      more[2] += d.loses(0) + d.loses(1) + d.loses(2) + d.loses(3);
      more[3] += d.gets(0) + d.gets(1) + d.gets(2) + d.gets(3) + d.gets(4);
      more[6] += d.advance(1);
    }
    for (int what : new int[] {0, 2, 3, 6}) {
      Check.due("24: account " + what, d.account(what), before[what] + more[what]);
    }
    int supply = 0;
    for (int time = 5; time < 35; time++) {
      supply += Districts.supplyOfRich(time % 24);
    }
    Check.due("24: all of the supply", d.account(0) + d.account(1) - before[0] - before[1], supply);
    Check.due("24: all that flowed", d.account(0), d.account(2) + d.account(3));
    int usedOrLeaked = d.account(4) + d.account(5) - before[4] - before[5];
    Check.due("24: all that users got", more[3], usedOrLeaked + contents(d) - content);
    int missed = d.missed(0) + d.missed(1) + d.missed(2) + d.missed(3) + d.missed(4);
    Check.due("26: all that was missed", d.account(6), missed);
  }

  private static int contents(IrrigationDistrict d) {
    return d.pond(0) + d.pond(1) + d.pond(2) + d.pond(3) + d.pond(4);
  }

  /** A district without users: the hours pass, and all water stays in the river. */
  private static void emptyDistrictInTime() {
    for (int rule = 0; rule < 3; rule++) {
      IrrigationDistrict d = new IrrigationDistrict();
      d.setRule(rule);
      Check.due("22: no gate is too small", d.usefulGate(0), 1);
      Check.due("23: nothing is missed", d.advance(48), 0);
      Check.due("24: nothing flows", d.account(0), 0);
      Check.due("24: all stays", d.account(1), 4800);
      for (int what = 2; what < 7; what++) {
        Check.due("24: nothing else", d.account(what), 0);
      }
      Check.due("31: nobody to shut off", d.settle(), 0);
      Check.due("19: nobody's turn", d.turn(), NONE);
      Check.due("15: nobody is there", d.asks(0), BAD_INDEX);
    }
  }

  /** "hours: 1 to 48", "NONE if it is not so after 48 hours". */
  private static void forecastEnds() {
    IrrigationDistrict d = new IrrigationDistrict();
    addUser(d, 0, 1900, 1, 3);
    int sum = 0;
    for (int hours = 1; hours <= 48; hours++) {
      sum += 2;
      Check.due("27: " + hours + " hours", d.willMiss(0, hours), sum);
    }
    Check.due("23: the same, when they pass", d.advance(48), 96);
    Check.due("27: only what is to come", d.willMiss(0, 48), 96);
    IrrigationDistrict e = new IrrigationDistrict();
    addUser(e, 0, 1900, 1, 0);
    for (int capacity = 0; capacity <= 50; capacity++) {
      e.setPond(0, capacity, 0);
      Check.due("28: capacity " + capacity, e.hoursToFull(0), capacity <= 48 ? capacity : NONE);
    }
    e.advance(2);
    for (int left = 48; left >= 0; left--) {
      Check.due("28: still " + left, e.hoursToFull(0), left);
      e.advance(1);
    }
    Check.due("28: it stays full", e.hoursToFull(0), 0);
  }

  /** The last values that are allowed, all at once. */
  private static void ends() {
    IrrigationDistrict d = new IrrigationDistrict();
    d.addDitch(0, 200, 50);
    d.setDitch(0, 200, 50);
    d.setSupply(0, 24, 200);
    addUser(d, 1, 2099, 60, 60);
    d.setPond(0, 500, 20);
    // 200 pass on 100, and these 50.
    gets("two ditches with the greatest loss", d, 50);
    Check.due("23: ten are missing", d.advance(1), 10);
    d.setField(0, 0, 0, 1);
    d.advance(1);
    Check.due("25: 50 less 20", d.pond(0), 30);
    Check.due("28: with the leak of 20 it is never full", d.hoursToFull(0), NONE);
    IrrigationDistrict least = new IrrigationDistrict();
    least.addDitch(0, 1, 0);
    least.setDitch(0, 1, 0);
    addUser(least, 1, 1800, 60, 1);
    gets("gates of one unit", least, 1);
    least.setSupply(0, 24, 1);
    gets("a supply of one unit", least, 1);
    least.setDitch(1, 1, 1);
    gets("which is lost with one in the hundred", least, 0);
    Check.due("20: by its gate, since it needs two", least.limit(0), 1);
  }

  /** "at most 512 calls": the last one is answered as the first one. */
  private static void lastCall() {
    IrrigationDistrict d = new IrrigationDistrict();
    addUser(d, 0, 1900, 50, 60);
    for (int call = 3; call < 512; call++) {
      d.advance(48);
    }
    Check.due("24: the 512th call", d.account(6), 509 * 48 * 10);
    IrrigationDistrict full = Districts.full();
    int least = full.leastSupply(11);
    for (int call = 0; call < 440; call++) {
      full.leastSupply(11);
    }
    Check.due("21: answered as before", full.leastSupply(11), least);
  }
}
