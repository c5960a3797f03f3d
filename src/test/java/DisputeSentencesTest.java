/** The sentences of the Description on disputes, at their edges. */
final class DisputeSentencesTest {
  private static final int BAD_VALUE = IrrigationDistrict.BAD_VALUE;
  private static final int NOT_POSSIBLE = IrrigationDistrict.NOT_POSSIBLE;
  private static final int UNFOUNDED = IrrigationDistrict.UNFOUNDED;
  private static final int FUTILE = IrrigationDistrict.FUTILE;
  private static final int UPHELD = IrrigationDistrict.UPHELD;
  private static final int BY_TURNS = IrrigationDistrict.BY_TURNS;
  private static final int IN_PROPORTION = IrrigationDistrict.IN_PROPORTION;

  private DisputeSentencesTest() {
  }

  public static void main(String[] args) {
    ofAYoungerOne();
    gainOfOneUnit();
    unfoundedIfAllIsGot();
    unfoundedIfNothingIsTaken();
    futileUpToF();
    gainAboveWhatIsTaken();
    gainOfNothing();
    nobodyToSettle();
    secondOldestComplains();
    onlyTheYoungestPairOfTwelve();
    oldestFirst();
    youngestFirst();
    onlyForThisHour();
    shutOneIsNoOlderOne();
    shutAndSaved();
    Check.finish();
  }

  private static int addUser(IrrigationDistrict d, int ditch, int year, int units) {
    int user = d.addUser(ditch, year, 60);
    d.setField(user, units, 0, 24);
    return user;
  }

  private static IrrigationDistrict inProportion(int supply, int... units) {
    IrrigationDistrict d = new IrrigationDistrict();
    d.setRule(IN_PROPORTION);
    d.setSupply(0, 24, supply);
    for (int i = 0; i < units.length; i++) {
      addUser(d, 0, 1900 + i, units[i]);
    }
    return d;
  }

  /** User 0, with a need of 60, has what user 1 leaves, who is in its turn and takes so much. */
  private static IrrigationDistrict inItsTurn(int supply, int taken) {
    IrrigationDistrict d = new IrrigationDistrict();
    addUser(d, 0, 1900, 60);
    addUser(d, 0, 1950, taken);
    d.setTurn(1, 24);
    d.setRule(BY_TURNS);
    d.setSupply(0, 24, supply);
    return d;
  }

  /** "A user may complain of a younger one": of no older one, and not of itself. */
  private static void ofAYoungerOne() {
    int[] byAge = {1, 3, 0, 2};
    for (int i = 0; i < 4; i++) {
      for (int j = 0; j < 4; j++) {
        // By age 60 and 40 units are given; no younger one takes any of them away.
        int gain = ofSameYears().gain(byAge[i], byAge[j]);
        Check.due("29: " + i + " of " + j, gain, i < j ? 0 : NOT_POSSIBLE);
        int complaint = ofSameYears().complaint(byAge[i], byAge[j]);
        Check.due("30: " + i + " of " + j, complaint, i >= j ? NOT_POSSIBLE : i == 0 || j > 1 ? UNFOUNDED : FUTILE);
      }
    }
  }

  private static IrrigationDistrict ofSameYears() {
    IrrigationDistrict d = new IrrigationDistrict();
    for (int year : new int[] {2099, 1800, 2099, 1800}) {
      addUser(d, 0, year, 60);
    }
    return d;
  }

  /** "by how much more the older one would get in this hour if the younger one asked for nothing". */
  private static void gainOfOneUnit() {
    IrrigationDistrict d = inItsTurn(61, 2);
    Check.due("29: one of two", d.gain(0, 1), 1);
    Check.due("30: half of it is enough", d.complaint(0, 1), UPHELD);
    d.setFutile(50);
    Check.due("30: half of it is not less than half", d.complaint(0, 1), UPHELD);
    d.setFutile(51);
    Check.due("30: and less than more", d.complaint(0, 1), FUTILE);
    d.setSupply(0, 24, 60);
    Check.due("29: both", d.gain(0, 1), 2);
    Check.due("23: which it misses", d.advance(1), 2);
    d.setField(1, 2, 0, 1);
    Check.due("29: the younger one asks for nothing anyway", d.gain(0, 1), 0);
  }

  /** "UNFOUNDED if the older one gets all it asks for". */
  private static void unfoundedIfAllIsGot() {
    IrrigationDistrict d = inItsTurn(80, 20);
    Check.due("30: just all", d.complaint(0, 1), UNFOUNDED);
    d.setSupply(0, 24, 79);
    d.setFutile(5);
    Check.due("30: one less than all, and one is 5 of the hundred", d.complaint(0, 1), UPHELD);
    d.setFutile(6);
    Check.due("30: which is not 6 of the hundred", d.complaint(0, 1), FUTILE);
    d.setField(0, 0, 0, 24);
    Check.due("30: all of nothing", d.complaint(0, 1), UNFOUNDED);
  }

  /** "or the younger one gets nothing". */
  private static void unfoundedIfNothingIsTaken() {
    IrrigationDistrict d = inItsTurn(30, 1);
    d.setFutile(100);
    Check.due("30: one unit is taken", d.complaint(0, 1), UPHELD);
    d.setField(1, 0, 0, 24);
    Check.due("30: none is taken", d.complaint(0, 1), UNFOUNDED);
    d.setFutile(0);
    Check.due("30: nor with f as 0", d.complaint(0, 1), UNFOUNDED);
    d.setField(1, 20, 0, 24);
    d.setSupply(0, 24, 0);
    Check.due("30: there is nothing to take", d.complaint(0, 1), UNFOUNDED);
  }

  /** "FUTILE if 100 times the gain is less than f times what the younger one gets": for each f, just at its edge. */
  private static void futileUpToF() {
    for (int gain = 1; gain <= 20; gain++) {
      IrrigationDistrict d = inItsTurn(80 - gain, 20);
      Check.due("29: gain", d.gain(0, 1), gain);
      for (int f = 0; f <= 100; f++) {
        d.setFutile(f);
        Check.due("30: gain " + gain + " of 20, f " + f, d.complaint(0, 1), 5 * gain < f ? FUTILE : UPHELD);
      }
      Check.due("10: no greater f", d.setFutile(101), BAD_VALUE);
    }
  }

  /** With the losses of its ditch the younger one costs the older one more than it gets. */
  private static void gainAboveWhatIsTaken() {
    IrrigationDistrict d = new IrrigationDistrict();
    d.addDitch(0, 200, 50);
    addUser(d, 0, 1900, 60);
    addUser(d, 1, 1950, 10);
    d.setTurn(1, 24);
    d.setRule(BY_TURNS);
    d.setSupply(0, 24, 60);
    d.setFutile(100);
    Check.due("16: it gets 10", d.gets(1), 10);
    Check.due("29: which are 20", d.gain(0, 1), 20);
    Check.due("30: upheld with every f", d.complaint(0, 1), UPHELD);
  }

  /** "or the gain is 0", also if f is 0, and if it is less than 0. */
  private static void gainOfNothing() {
    IrrigationDistrict d = new IrrigationDistrict();
    addUser(d, 0, 1900, 60);
    addUser(d, 0, 1950, 40);
    d.setDitch(0, 59, 0);
    addUser(d, 0, 1990, 40);
    d.setFutile(0);
    Check.due("29: by age", d.gain(0, 1), 0);
    Check.due("30: nothing is taken", d.complaint(0, 1), UNFOUNDED);
    d.setRule(BY_TURNS);
    d.setTurn(2, 1);
    // User 2 has 40, user 0 has 19, user 1 has nothing.
    Check.due("29: of one who gets nothing", d.gain(0, 1), 0);
    Check.due("30: of one who gets nothing", d.complaint(0, 1), UNFOUNDED);
    Check.due("29: what user 2 takes goes to the oldest one", d.gain(1, 2), 0);
    Check.due("30: no gain, though f is 0", d.complaint(1, 2), FUTILE);
    Check.due("30: a gain", d.complaint(0, 2), UPHELD);
    IrrigationDistrict less = inProportion(60, 60, 5, 60);
    less.setFutile(0);
    // 50 % are 30, 2 and 30, which are too many; 49 % are 29, 2 and 29.
    Check.due("16: the oldest", less.gets(0), 29);
    Check.due("16: the middle one", less.gets(1), 2);
    Check.due("16: the youngest", less.gets(2), 29);
    // Without the middle one 50 % are 30 and 30.
    Check.due("29: one of two", less.gain(0, 1), 1);
    Check.due("30: one of two, f is 0", less.complaint(0, 1), UPHELD);
  }

  /** "all pairs of an older and a younger user": there are none with less than two users. */
  private static void nobodyToSettle() {
    for (int rule = 0; rule < 3; rule++) {
      IrrigationDistrict d = new IrrigationDistrict();
      d.setRule(rule);
      d.setFutile(0);
      Check.due("31: without users", d.settle(), 0);
      addUser(d, 0, 1900, 60);
      d.setTurn(0, 1);
      d.setSupply(0, 24, 5);
      Check.due("31: with one user", d.settle(), 0);
      Check.due("32: who is not shut off", d.isShut(0), 0);
      addUser(d, 0, 1800, 0);
      Check.due("31: with an older one that asks for nothing", d.settle(), 0);
    }
  }

  /** The oldest one gets all it asks for, the second one does not. */
  private static void secondOldestComplains() {
    IrrigationDistrict d = inProportion(50, 0, 40, 40);
    Check.due("30: the oldest one", d.complaint(0, 2), UNFOUNDED);
    Check.due("30: the second one", d.complaint(1, 2), UPHELD);
    Check.due("31: one is shut off", d.settle(), 1);
    Check.due("32: the youngest one", d.isShut(2), 1);
    Check.due("16: the second one has all", d.gets(1), 40);
  }

  private static void onlyTheYoungestPairOfTwelve() {
    IrrigationDistrict d = new IrrigationDistrict();
    for (int user = 0; user < 12; user++) {
      addUser(d, 0, 2000 - user, user < 2 ? 40 : 0);
    }
    d.setRule(IN_PROPORTION);
    d.setSupply(0, 24, 50);
    Check.due("13: the youngest but one", d.userByAge(10), 1);
    Check.due("31: the last pair", d.settle(), 1);
    Check.due("32: the youngest one", d.isShut(0), 1);
    Check.due("32: not the older one of the pair", d.isShut(1), 0);
    Check.due("31: nobody more", d.settle(), 0);
    d.advance(1);
    Check.due("31: again in the next hour", d.settle(), 1);
  }

  /**
   * "by the older one, the oldest one first": its complaint of user 2 is futile (7 of 25), but that of user 1 is
   * not (4 of 12). Had user 1 complained first, user 2 would have been shut off (8 of 25).
   */
  private static void oldestFirst() {
    IrrigationDistrict d = inProportion(50, 20, 20, 40);
    Check.due("29: the oldest one of the youngest one", d.gain(0, 2), 7);
    Check.due("30: which is futile", d.complaint(0, 2), FUTILE);
    Check.due("29: the oldest one of the middle one", d.gain(0, 1), 4);
    Check.due("30: which is not", d.complaint(0, 1), UPHELD);
    Check.due("29: the middle one of the youngest one", d.gain(1, 2), 8);
    Check.due("30: which is not, either", d.complaint(1, 2), UPHELD);
    Check.due("31: one alone", d.settle(), 1);
    Check.due("32: the middle one", d.isShut(1), 1);
    Check.due("32: not the youngest one", d.isShut(2), 0);
  }

  /** "and for each of them by the younger one, the youngest one first": whatever the numbers are. */
  private static void youngestFirst() {
    int[][] years = {{1900, 1950, 1990}, {1900, 1990, 1950}, {1990, 1900, 1950}, {1950, 1990, 1900}};
    for (int[] ages : years) {
      IrrigationDistrict d = new IrrigationDistrict();
      d.setRule(IN_PROPORTION);
      d.setSupply(0, 24, 60);
      for (int year : ages) {
        addUser(d, 0, year, 30);
      }
      Check.due("31: one is enough", d.settle(), 1);
      for (int user = 0; user < 3; user++) {
        Check.due("32: of the year " + ages[user], d.isShut(user), ages[user] == 1990 ? 1 : 0);
      }
    }
  }

  /** "Then nobody is shut off any more": after one hour, and after more of them. */
  private static void onlyForThisHour() {
    for (int hours : new int[] {1, 2, 48}) {
      IrrigationDistrict d = inProportion(30, 30, 30, 30);
      Check.due("31: both younger ones", d.settle(), 2);
      d.setRule(IrrigationDistrict.BY_AGE);
      d.setFutile(100);
      Check.due("32: whatever is set", d.isShut(1) + d.isShut(2), 2);
      Check.due("15: nothing", d.asks(1) + d.asks(2), 0);
      d.setRule(IN_PROPORTION);
      // Each of them misses 30 in the first hour, and 20 in each of the others.
      Check.due("27: forecast", d.willMiss(1, hours) + d.willMiss(2, hours), 60 + 40 * (hours - 1));
      Check.due("32: still", d.isShut(1) + d.isShut(2), 2);
      Check.due("23: " + hours, d.advance(hours), 60 * hours);
      Check.due("32: no longer", d.isShut(1) + d.isShut(2), 0);
      Check.due("15: again", d.asks(1) + d.asks(2), 60);
    }
  }

  /** One who is shut off asks for nothing, gets it, and so complains of nobody. */
  private static void shutOneIsNoOlderOne() {
    IrrigationDistrict d = inProportion(30, 30, 30, 30);
    d.settle();
    Check.due("30: the middle one", d.complaint(1, 2), UNFOUNDED);
    Check.due("30: of one who is shut off", d.complaint(0, 2), UNFOUNDED);
    Check.due("29: nor is there a gain", d.gain(0, 2), 0);
    Check.due("31: nobody is shut off twice", d.settle(), 0);
    d.addUser(0, 1800, 60);
    d.setField(3, 60, 0, 24);
    // 34 % are 20 and 10; without user 0 the new one has all 30.
    Check.due("29: a new one gains by the one that is left", d.gain(3, 0), 10);
    Check.due("31: and shuts it off", d.settle(), 1);
    Check.due("32: all but the new one", d.isShut(0) + d.isShut(1) + d.isShut(2), 3);
  }

  /** "Saves everything": also who is shut off, which is so again when it is restored, for the same hour. */
  private static void shutAndSaved() {
    IrrigationDistrict d = inProportion(30, 30, 30, 30);
    d.save(0);
    d.settle();
    d.save(1);
    Check.due("38: nobody was", d.restore(0) + d.isShut(1) + d.isShut(2), 0);
    d.advance(3);
    Check.due("38: two were", d.restore(1) + d.isShut(1) + d.isShut(2), 2);
    d.advance(1);
    Check.due("32: until the hour has passed", d.isShut(1) + d.isShut(2), 0);
  }
}
