/**
 * The sentences of "Houses and feeders", of the settings, and of promises 1 to 4, 9, 19, 22, 25 and 26 that name a
 * boundary case, each with a test of its own; the sentence stands above it. What is refused stands in RefusalsTest.
 */
public final class HouseEdgesTest extends PoolChecks {
  public static void main(String[] args) {
    noHouses();
    hour0();
    emptyText();
    imagesKeepNothing();
    objectsAreApart();
    threeFeeders();
    numberedFrom0();
    tenHouses();
    fullComesAndGoes();
    demandFrom0To50();
    creditAtFirst0();
    creditCanBeNegative();
    debtFrom0To1000();
    connectedAtFirst();
    overdraftFrom0To50();
    percentFrom0To100();
    settingsAtFirst();
    demandOrCredit();
    notLessThan0();
    notConnected();
    previousValue();
    firstOneRemoved();
    lastOneRemoved();
    everyOneRemoved();
    loansAreRenumbered();
    neitherLenderNorBorrower();
    housesLeft();
    newHouseBeginsAnew();
    noneSinceItIsThere();
    stayAsTheyWere();
    allThatItGot();
    sumsOwed();
    feederSums();
    feederShedHours();
    shedWhateverHasChanged();
    negativeCredits();
    bitMask();
    feederWithoutHouses();
    check.end();
  }

  /** "Creates a pool without houses" */
  private static void noHouses() {
    MeterPool x = new MeterPool();
    due("houses", x.count(0), 0);
    due("house 0", x.house(0, 0), BAD);
    due("loans", x.count(1), 0);
    due("loan 0", x.loan(0, 0), BAD);
    due("dark", x.darkIn(0), BAD);
    due("token", x.tokenFor(0, 1), BAD);
    due("units", x.buy(0, 1), BAD);
    due("removal", x.removeHouse(0), BAD);
    due("negative credits", x.count(7), 0);
    due("nets", x.net(), 0);
    due("runs", x.run(1), 0);
  }

  /** "at the hour 0" */
  private static void hour0() {
    MeterPool x = new MeterPool();
    due("hour", x.count(2), 0);
    due("hour in an image", x.keep(0), 0);
    supply(x, "1,2,3");
    x.run(1);
    due("its supply was the first number", x.account(0), 1);
  }

  /** "the text is empty" */
  private static void emptyText() {
    due("length", new MeterPool().clear(), 0);
    due("fault", new MeterPool().fault(), 0);
    due("load", new MeterPool().load(), STATE);
    due("first character", new MeterPool().type('1'), 1);
  }

  /** "and the images keep nothing" */
  private static void imagesKeepNothing() {
    MeterPool x = new MeterPool();
    due("image 0", x.back(0), STATE);
    due("image 1", x.back(1), STATE);
    due("mask", x.count(6), 0);
  }

  /** Promise 1: a new object has nothing of one that was made before it. */
  private static void objectsAreApart() {
    MeterPool x = full();
    x.set(0, 50);
    MeterPool y = new MeterPool();
    row("counts", counts(y), 0, 0, 0, 1, 1, 0, 0, 0);
    row("accounts", accounts(y), 0, 0, 0, 0, 0, 0, 0, 0);
    row("battery", batteryRow(y, 0), 0, 20, 90, 0, 0);
    due("setting", y.setting(0), 5);
    due("text", y.clear(), 0);
    due("image", y.back(0), STATE);
    due("the old one still has all", x.count(0), 10);
  }

  /** "There are three feeders, 0 to 2" */
  private static void threeFeeders() {
    MeterPool x = new MeterPool();
    due("feeder -1", x.addHouse(-1, 5), BAD);
    due("feeder 3", x.addHouse(3, 5), BAD);
    for (int feeder = 0; feeder < 3; feeder++) {
      due("feeder " + feeder, x.addHouse(feeder, 5), feeder);
      due("its house", x.house(feeder, 0), feeder);
      due("its size", x.feeder(feeder, 0), 1);
    }
    due("moved to -1", x.setHouse(0, 0, -1), BAD);
    due("moved to 3", x.setHouse(0, 0, 3), BAD);
    due("moved to 2", x.setHouse(0, 0, 2), 0);
    due("moved to 0", x.setHouse(2, 0, 0), 2);
    row("sizes", ints(x.feeder(0, 0), x.feeder(1, 0), x.feeder(2, 0)), 1, 1, 1);
    due("told -1", x.feeder(-1, 0), BAD);
    due("told 3", x.feeder(3, 0), BAD);
  }

  /** "numbered from 0" */
  private static void numberedFrom0() {
    MeterPool x = new MeterPool();
    for (int i = 0; i < 10; i++) {
      due("house " + i, x.addHouse(0, i), i);
      due("is told", x.house(i, 1), i);
      due("the next is not there", x.house(i + 1, 1), BAD);
      due("nor is one before 0", x.house(-1, 1), BAD);
    }
  }

  /** "There are at most 10 houses" and "FULL if there are 10 houses" */
  private static void tenHouses() {
    MeterPool x = new MeterPool();
    for (int i = 0; i < 9; i++) {
      x.addHouse(i % 3, i);
    }
    due("tenth", x.addHouse(2, 9), 9);
    for (int i = 0; i < 3; i++) {
      due("eleventh, to feeder " + i, x.addHouse(i, 10), FULL);
    }
    due("houses", x.count(0), 10);
    row("as they were", ofAll(x, 1), 0, 1, 2, 3, 4, 5, 6, 7, 8, 9);
    due("no eleventh", x.house(10, 1), BAD);
    due("states", x.count(5), 8);
  }

  /** "FULL if there are 10 houses": not any more when one is removed or its coming is taken back, and again after it. */
  private static void fullComesAndGoes() {
    MeterPool x = new MeterPool();
    for (int i = 0; i < 10; i++) {
      x.addHouse(0, i);
    }
    x.keep(0);
    due("removed", x.removeHouse(9), 9);
    due("tenth", x.addHouse(1, 40), 9);
    due("eleventh", x.addHouse(1, 41), FULL);
    due("taken back", x.undo(), 7);
    due("tenth again", x.addHouse(1, 42), 9);
    due("eleventh again", x.addHouse(1, 43), FULL);
    x.removeHouse(0);
    x.removeHouse(0);
    due("the image has ten", x.back(0), 0);
    due("eleventh of the image", x.addHouse(1, 44), FULL);
    due("its last one", x.house(9, 1), 9);
  }

  /** "a demand (0 to 50 units an hour)" */
  private static void demandFrom0To50() {
    MeterPool x = new MeterPool();
    supply(x, "500");
    due("-1", x.addHouse(0, -1), BAD);
    due("51", x.addHouse(0, 51), BAD);
    due("0", x.addHouse(0, 0), 0);
    due("50", x.addHouse(0, 50), 1);
    x.buy(0, 200);
    x.buy(1, 200);
    due("50 are drawn", x.run(1), 50);
    row("by the one", ofAll(x, 6), 0, 50);
    due("set to -1", x.setHouse(1, 1, -1), BAD);
    due("set to 51", x.setHouse(1, 1, 51), BAD);
    due("set to 0", x.setHouse(1, 1, 0), 50);
    due("set to 50", x.setHouse(0, 1, 50), 0);
    due("50 are drawn again", x.run(1), 50);
    row("by the other one", ofAll(x, 6), 50, 0);
  }

  /** "a credit (at first 0 ..)" */
  private static void creditAtFirst0() {
    MeterPool x = new MeterPool();
    x.addHouse(0, 5);
    due("credit", x.house(0, 4), 0);
    due("it can't be lent", x.addHouse(0, 5) + x.lend(0, 1, 1), 1 + STATE);
  }

  /** "it can be negative" */
  private static void creditCanBeNegative() {
    MeterPool x = new MeterPool();
    x.addHouse(0, 5);
    x.addHouse(0, 5);
    x.run(1);
    row("credits", ofAll(x, 4), -5, -5);
    due("how many", x.count(7), 2);
    due("sum", x.feeder(0, 2), -10);
    due("a token less than it", x.buy(0, 4), -1);
    due("a token as great as it", x.buy(1, 5), 0);
    due("how many then", x.count(7), 1);
  }

  /** "a debt to the pool (0 to 1000)" */
  private static void debtFrom0To1000() {
    MeterPool x = new MeterPool();
    x.addHouse(0, 5);
    due("at first", x.house(0, 2), 0);
    due("-1", x.setHouse(0, 2, -1), BAD);
    due("1001", x.setHouse(0, 2, 1001), BAD);
    due("1000", x.setHouse(0, 2, 1000), 0);
    due("told", x.house(0, 2), 1000);
    due("200 are paid", x.buy(0, 500), 300);
    due("left", x.house(0, 2), 800);
    due("0", x.setHouse(0, 2, 0), 800);
    due("none is paid", x.buy(0, 500), 800);
  }

  /** "and is connected or not (at first it is)" and "3 for 1 if it is connected, else 0" */
  private static void connectedAtFirst() {
    MeterPool x = new MeterPool();
    x.addHouse(0, 5);
    due("at first", x.house(0, 3), 1);
    due("-1", x.setHouse(0, 3, -1), BAD);
    due("2", x.setHouse(0, 3, 2), BAD);
    due("not any more", x.setHouse(0, 3, 0), 1);
    due("told", x.house(0, 3), 0);
    due("again", x.setHouse(0, 3, 1), 0);
    due("told again", x.house(0, 3), 1);
  }

  /** "0: the overdraft, 0 to 50" */
  private static void overdraftFrom0To50() {
    MeterPool x = new MeterPool();
    x.addHouse(0, 50);
    due("-1", x.set(0, -1), BAD);
    due("51", x.set(0, 51), BAD);
    due("0", x.set(0, 0), 5);
    due("nothing is drawn", x.house(0, 5), 0);
    due("50", x.set(0, 50), 0);
    due("50 are drawn", x.house(0, 5), 50);
  }

  /** "in percent, 0 to 100": the share for the debt, the share for loans, and the least part */
  private static void percentFrom0To100() {
    MeterPool x = new MeterPool();
    int[] atFirst = {5, 40, 50, 50};
    for (int setting = 1; setting < 4; setting++) {
      due("-1 for " + setting, x.set(setting, -1), BAD);
      due("101 for " + setting, x.set(setting, 101), BAD);
      due("0 for " + setting, x.set(setting, 0), atFirst[setting]);
      due("is told", x.setting(setting), 0);
      due("100 for " + setting, x.set(setting, 100), 0);
      due("is told too", x.setting(setting), 100);
    }
    due("the overdraft stays", x.setting(0), 5);
    due("setting -1", x.set(-1, 5), BAD);
    due("setting 4", x.set(4, 5), BAD);
    due("told -1", x.setting(-1), BAD);
    due("told 4", x.setting(4), BAD);
  }

  /** "at first 5 .. at first 40 .. at first 50 .. at first 50" */
  private static void settingsAtFirst() {
    MeterPool x = new MeterPool();
    row("settings", ints(x.setting(0), x.setting(1), x.setting(2), x.setting(3)), 5, 40, 50, 50);
  }

  /** "A house can draw as many units in an hour as its demand, but no more than its credit plus the overdraft" */
  private static void demandOrCredit() {
    MeterPool x = new MeterPool();
    x.addHouse(0, 20);
    x.buy(0, 14);
    due("one less than the demand", x.house(0, 5), 19);
    due("told of the feeder", x.feeder(0, 1), 19);
    x.buy(0, 1);
    due("the demand", x.house(0, 5), 20);
    x.buy(0, 1);
    due("no more than the demand", x.house(0, 5), 20);
    due("drawn", x.run(1), 20);
    due("the credit then", x.house(0, 4), -4);
    due("one is left", x.house(0, 5), 1);
    due("it is drawn", x.run(1), 1);
    due("the credit is the overdraft", x.house(0, 4), -5);
    due("none is left", x.house(0, 5), 0);
  }

  /** "and not less than 0" */
  private static void notLessThan0() {
    MeterPool x = new MeterPool();
    x.addHouse(0, 9);
    x.addHouse(0, 3);
    x.buy(1, 3);
    x.run(1);
    row("credits", ofAll(x, 4), -5, 0);
    x.set(0, 4);
    due("below the overdraft", x.house(0, 5), 0);
    due("the sum", x.feeder(0, 1), 3);
    x.set(0, 0);
    due("far below", x.house(0, 5), 0);
    due("nothing is drawn", x.run(1), 0);
    row("credits stay", ofAll(x, 4), -5, 0);
    due("used in all", x.account(1), 8);
  }

  /** "a house that is not connected cannot draw any" */
  private static void notConnected() {
    MeterPool x = rich(0, 7, 0, 6);
    x.setHouse(0, 3, 0);
    due("told", x.house(0, 5), 0);
    due("the sum", x.feeder(0, 1), 6);
    due("the other one alone", x.run(1), 6);
    row("credits", ofAll(x, 4), 500, 494);
    due("it buys all the same", x.buy(0, 1), 501);
    due("and lends", x.lend(0, 1, 5), 1);
    x.setHouse(0, 3, 1);
    due("connected again", x.run(1), 13);
  }

  /** "Returns the previous value", also if it stays the same, and that is a change as well */
  private static void previousValue() {
    MeterPool x = new MeterPool();
    x.addHouse(2, 30);
    due("feeder", x.setHouse(0, 0, 2), 2);
    due("demand", x.setHouse(0, 1, 30), 30);
    due("debt", x.setHouse(0, 2, 0), 0);
    due("connected", x.setHouse(0, 3, 1), 1);
    due("setting", x.set(1, 40), 40);
    due("states", x.count(5), 6);
    x.undo();
    x.undo();
    x.undo();
    due("capacity", x.setBattery(1, 0, 0), 0);
    due("rate", x.setBattery(1, 1, 20), 20);
    due("efficiency", x.setBattery(1, 2, 90), 90);
    due("states then", x.count(5), 6);
  }

  /** "Removes a house; the numbers of the later ones decrease by 1": of all of them */
  private static void firstOneRemoved() {
    MeterPool x = new MeterPool();
    for (int i = 0; i < 10; i++) {
      x.addHouse(i % 3, 3 + i);
      x.buy(i, 10 * i + 1);
    }
    x.setHouse(9, 2, 99);
    x.setHouse(4, 3, 0);
    due("left", x.removeHouse(0), 9);
    row("feeders", ofAll(x, 0), 1, 2, 0, 1, 2, 0, 1, 2, 0);
    row("demands", ofAll(x, 1), 4, 5, 6, 7, 8, 9, 10, 11, 12);
    row("debts", ofAll(x, 2), 0, 0, 0, 0, 0, 0, 0, 0, 99);
    row("connected", ofAll(x, 3), 1, 1, 1, 0, 1, 1, 1, 1, 1);
    row("credits", ofAll(x, 4), 11, 21, 31, 41, 51, 61, 71, 81, 91);
    due("the old last number", x.house(9, 0), BAD);
    due("left then", x.removeHouse(4), 8);
    row("demands then", ofAll(x, 1), 4, 5, 6, 7, 9, 10, 11, 12);
  }

  /** The same: when it is the last one, there are no later ones */
  private static void lastOneRemoved() {
    MeterPool x = rich(0, 1, 1, 2, 2, 3);
    due("left", x.removeHouse(2), 2);
    row("demands", ofAll(x, 1), 1, 2);
    due("its number", x.house(2, 1), BAD);
    due("again", x.removeHouse(2), BAD);
  }

  /** "Returns how many houses are left": down to none, and up again */
  private static void everyOneRemoved() {
    MeterPool x = rich(0, 1, 1, 2, 2, 3);
    for (int left = 2; left >= 0; left--) {
      due("left", x.removeHouse(0), left);
    }
    due("none", x.removeHouse(0), BAD);
    due("houses", x.count(0), 0);
    row("feeder 1", feederRow(x, 1), 0, 0, 0, 0, 0);
    due("tokens stay told", x.account(6), 1500);
    check.dueDouble("met", x.met(), 1.0);
    due("numbered from 0 again", x.addHouse(1, 8), 0);
  }

  /** "the numbers of the later ones decrease by 1": in the loans too */
  private static void loansAreRenumbered() {
    MeterPool x = rich(0, 1, 0, 2, 0, 3, 0, 4, 0, 5);
    x.lend(1, 4, 10);
    x.lend(4, 1, 20);
    x.lend(1, 3, 30);
    due("one between", x.removeHouse(2), 4);
    row("loan 0", loanRow(x, 0), 1, 3, 10);
    row("loan 1", loanRow(x, 1), 3, 1, 20);
    row("loan 2", loanRow(x, 2), 1, 2, 30);
    due("one before", x.removeHouse(0), 3);
    row("loan 0 then", loanRow(x, 0), 0, 2, 10);
    row("loan 1 then", loanRow(x, 1), 2, 0, 20);
    row("loan 2 then", loanRow(x, 2), 0, 1, 30);
    row("owed", ofAll(x, 9), 20, 30, 10);
    row("owed to", ofAll(x, 10), 40, 0, 20);
    x.addHouse(0, 9);
    due("one behind", x.removeHouse(3), 3);
    row("loan 1 stays", loanRow(x, 1), 2, 0, 20);
    // 20 of the token go to the loans of house 2 now: the lender is house 0.
    due("a token", x.buy(2, 20), 500);
    row("credits", ofAll(x, 4), 490, 530, 500);
    // As many loans as there can be.
    MeterPool y = rich(0, 1, 0, 2, 0, 3);
    for (int i = 0; i < 12; i++) {
      y.lend(1 + i % 2, 2 - i % 2, 1 + i);
    }
    due("twelve", y.removeHouse(0), 2);
    for (int i = 0; i < 12; i++) {
      row("loan " + i, loanRow(y, i), i % 2, 1 - i % 2, 1 + i);
    }
    due("no thirteenth", y.loan(12, 0), BAD);
  }

  /** "STATE if it is the lender or the borrower of a loan": no more when the loan is gone, in whatever way */
  private static void neitherLenderNorBorrower() {
    MeterPool x = rich(0, 1, 0, 1, 0, 1);
    x.lend(0, 1, 10);
    due("the lender", x.removeHouse(0), STATE);
    due("the borrower", x.removeHouse(1), STATE);
    due("neither", x.removeHouse(2), 2);
    x.buy(1, 20);
    due("paid wholly", x.removeHouse(1), 1);
    MeterPool y = rich(0, 1, 0, 1, 0, 1);
    y.lend(0, 1, 10);
    y.remit(0);
    due("remitted", y.removeHouse(0), 2);
    y.lend(0, 1, 10);
    y.lend(1, 0, 10);
    due("both", y.removeHouse(0) + y.removeHouse(1), 2 * STATE);
    y.net();
    due("netted", y.removeHouse(1), 1);
    due("the last one", y.removeHouse(0), 0);
    MeterPool z = rich(0, 1, 0, 1);
    z.lend(0, 1, 10);
    z.undo();
    due("taken back", z.removeHouse(1), 1);
  }

  /** "Returns how many houses are left": of ten, nine */
  private static void housesLeft() {
    MeterPool x = new MeterPool();
    for (int i = 0; i < 10; i++) {
      x.addHouse(0, 1);
    }
    for (int left = 9; left >= 0; left--) {
      due("left", x.removeHouse(left), left);
      due("told", x.count(0), left);
    }
  }

  /** "Adds a house": with nothing of one that had its number before */
  private static void newHouseBeginsAnew() {
    MeterPool x = rich(1, 10);
    x.setHouse(0, 2, 70);
    x.run(1);
    x.setHouse(0, 3, 0);
    x.run(1);
    row("the old one", houseRow(x, 0), 1, 10, 70, 0, 490, 0, 0, 1, 10, 0, 0);
    x.removeHouse(0);
    x.addHouse(2, 6);
    row("the new one", houseRow(x, 0), 2, 6, 0, 1, 0, 5, 0, 0, 0, 0, 0);
    x.run(1);
    row("the new one then", houseRow(x, 0), 2, 6, 0, 1, -5, 0, 5, 2, 5, 0, 0);
    x.removeHouse(0);
    x.addHouse(0, 0);
    row("the newest one", houseRow(x, 0), 0, 0, 0, 1, 0, 0, 0, 0, 0, 0, 0);
  }

  /** "6 for what it got in the latest hour (0 if there was none since it is there), 7 for its reason then (0 if ..)" */
  private static void noneSinceItIsThere() {
    MeterPool x = new MeterPool();
    x.addHouse(0, 10);
    row("before the first hour", ints(x.house(0, 6), x.house(0, 7), x.house(0, 8)), 0, 0, 0);
    x.run(5);
    x.addHouse(0, 10);
    row("before its first hour", ints(x.house(1, 6), x.house(1, 7), x.house(1, 8)), 0, 0, 0);
    row("the other one", ints(x.house(0, 6), x.house(0, 7), x.house(0, 8)), 0, 2, 5);
    x.run(1);
    row("after it", ints(x.house(1, 6), x.house(1, 7), x.house(1, 8)), 5, 2, 5);
  }

  /** "6 and 7 stay as they were when the house changes" */
  private static void stayAsTheyWere() {
    MeterPool x = rich(1, 12, 2, 9);
    x.run(1);
    row("shed", ints(x.house(0, 6), x.house(0, 7)), 0, 3);
    row("served", ints(x.house(1, 6), x.house(1, 7)), 9, 0);
    int[][] changes = {{0, 0}, {1, 0}, {1, 9}, {1, 50}, {2, 1000}, {3, 0}, {3, 1}};
    for (int house = 0; house < 2; house++) {
      for (int[] change : changes) {
        x.setHouse(house, change[0], change[1]);
        row("shed, then " + change[0], ints(x.house(0, 6), x.house(0, 7)), 0, 3);
        row("served, then " + change[0], ints(x.house(1, 6), x.house(1, 7)), 9, 0);
      }
    }
    x.buy(1, 10);
    x.lend(1, 0, 10);
    x.remit(0);
    x.set(0, 50);
    x.setBattery(0, 0, 500);
    supply(x, "500");
    row("shed, then all", ints(x.house(0, 6), x.house(0, 7)), 0, 3);
    row("served, then all", ints(x.house(1, 6), x.house(1, 7), x.house(1, 8)), 9, 0, 9);
    x.removeHouse(0);
    row("with another number", ints(x.house(0, 6), x.house(0, 7), x.house(0, 8)), 9, 0, 9);
  }

  /** "8 for all that it got": the sum of its hours, 0 without one, and no less when it gets nothing */
  private static void allThatItGot() {
    MeterPool x = rich(0, 3);
    due("before", x.house(0, 8), 0);
    x.run(1);
    due("one", x.house(0, 8), 3);
    x.run(100);
    due("a hundred and one", x.house(0, 8), 303);
    x.setHouse(0, 3, 0);
    x.run(1);
    due("none in that one", x.house(0, 8), 303);
    x.buy(0, 9);
    due("a token is none", x.house(0, 8), 303);
  }

  /** "9 for the sum of what it still owes, 10 for the sum of what others still owe it": 0 without loans, else of all */
  private static void sumsOwed() {
    MeterPool x = rich(0, 1, 0, 1, 0, 1);
    row("without loans", ints(x.house(0, 9), x.house(0, 10)), 0, 0);
    for (int i = 0; i < 6; i++) {
      x.lend(0, 1 + i % 2, 10);
      x.lend(2, i % 2, 3);
    }
    row("owes", ofAll(x, 9), 9, 39, 30);
    row("is owed", ofAll(x, 10), 60, 0, 18);
    x.remit(11);
    x.remit(0);
    row("owes then", ofAll(x, 9), 9, 26, 30);
    row("is owed then", ofAll(x, 10), 50, 0, 15);
  }

  /** "0 for the number of its houses, 1 for the sum of what they can draw, 2 for the sum of their credits" */
  private static void feederSums() {
    MeterPool x = new MeterPool();
    for (int i = 0; i < 10; i++) {
      x.addHouse(1, 50);
      x.buy(i, 45);
    }
    row("all ten", feederRow(x, 1), 10, 500, 450, 0, 0);
    x.setHouse(3, 3, 0);
    row("one is not connected", feederRow(x, 1), 10, 450, 450, 0, 0);
    x.setHouse(4, 0, 2);
    row("one is of another one", feederRow(x, 1), 9, 400, 405, 0, 0);
    row("that one", feederRow(x, 2), 1, 50, 45, 0, 0);
    x.removeHouse(4);
    row("without it", feederRow(x, 2), 0, 0, 0, 0, 0);
  }

  /** "3 for how many hours it was shed": none, some, all */
  private static void feederShedHours() {
    MeterPool x = rich(0, 20, 1, 1, 2, 1);
    due("none", x.feeder(1, 3) + x.feeder(2, 3), 0);
    x.run(1);
    row("both in one hour", ints(x.feeder(0, 3), x.feeder(1, 3), x.feeder(2, 3)), 0, 1, 1);
    x.run(9);
    row("both in ten hours", ints(x.feeder(0, 3), x.feeder(1, 3), x.feeder(2, 3)), 0, 10, 10);
    x.setHouse(0, 1, 0);
    x.run(5);
    row("no more", ints(x.feeder(0, 3), x.feeder(1, 3), x.feeder(2, 3)), 0, 10, 10);
  }

  /** "4 for 1 if it was shed in the latest hour (whatever has changed since), else 0" */
  private static void shedWhateverHasChanged() {
    MeterPool x = rich(1, 30, 2, 5);
    row("before an hour", ints(x.feeder(0, 4), x.feeder(1, 4), x.feeder(2, 4)), 0, 0, 0);
    x.run(1);
    x.setHouse(0, 0, 2);
    row("its house is of another one", ints(x.feeder(0, 4), x.feeder(1, 4), x.feeder(2, 4)), 0, 1, 0);
    x.setHouse(0, 1, 0);
    x.setHouse(0, 3, 0);
    supply(x, "500");
    x.removeHouse(1);
    x.removeHouse(0);
    row("no house is there", ints(x.feeder(0, 4), x.feeder(1, 4), x.feeder(2, 4)), 0, 1, 0);
    x.run(1);
    row("the next hour", ints(x.feeder(0, 4), x.feeder(1, 4), x.feeder(2, 4)), 0, 0, 0);
    due("it stays counted", x.feeder(1, 3), 1);
  }

  /** "7 for the number of houses with a negative credit": 0 is not negative, -1 is */
  private static void negativeCredits() {
    MeterPool x = new MeterPool();
    for (int i = 0; i < 10; i++) {
      x.addHouse(0, 1);
      x.buy(i, i == 4 ? 2 : 1);
    }
    x.run(1);
    row("credits", ofAll(x, 4), 0, 0, 0, 0, 1, 0, 0, 0, 0, 0);
    due("0", x.count(7), 0);
    x.run(1);
    row("credits then", ofAll(x, 4), -1, -1, -1, -1, 0, -1, -1, -1, -1, -1);
    due("-1", x.count(7), 9);
    x.run(1);
    due("all", x.count(7), 10);
  }

  /** "6 for the images that keep something, as a bit mask" */
  private static void bitMask() {
    MeterPool x = new MeterPool();
    due("none", x.count(6), 0);
    x.keep(0);
    due("image 0", x.count(6), 1);
    x.keep(0);
    due("image 0 again", x.count(6), 1);
    x.keep(1);
    due("both", x.count(6), 3);
    x.back(0);
    x.undo();
    due("still both", x.count(6), 3);
    MeterPool y = new MeterPool();
    y.keep(1);
    due("image 1", y.count(6), 2);
  }

  /** Promise 22: a feeder without houses has 0 everywhere, and is never shed */
  private static void feederWithoutHouses() {
    MeterPool x = rich(0, 40);
    x.run(3);
    row("feeder 1", feederRow(x, 1), 0, 0, 0, 0, 0);
    row("feeder 2", feederRow(x, 2), 0, 0, 0, 0, 0);
  }
}
