/**
 * The sentences of promises 27 to 31 that name a boundary case, each with a test of its own; the sentence stands above
 * it. What is refused, and that nothing changes, stands in RefusalsTest.
 */
public final class AheadEdgesTest extends PoolChecks {
  public static void main(String[] args) {
    ifRunFrom1To100();
    ifRunFromNowOn();
    usedInThem();
    howOftenShed();
    twiceInAnHour();
    spilledInThem();
    chargeThen();
    lessInTheLastOne();
    lessForWhateverReason();
    emptyVillageAhead();
    ifRunAsTheyPass();
    darkAtOnce();
    darkInTheLastOf200();
    neverDark();
    darkForWhateverReason();
    darkFromNowOn();
    firstDarkHour();
    darkIsNotUnmetElsewhere();
    tokenFrom1To48Hours();
    noTokenIsNeeded();
    leastToken();
    tokenOf1And500();
    noTokenHelps();
    debtIsPaidByIt();
    debtSmallerThanItsShare();
    loansArePaidByIt();
    lenderDrawsMore();
    tokenByWhichAnotherIsShed();
    tokenOfOneNotConnected();
    tokenWithoutDemand();
    tokenFromNowOn();
    metNothing();
    metAll();
    metByThoseThereAreNow();
    metByDemandsAsTheyAreNow();
    metWithoutDemand();
    digestOfANewOne();
    digestOfEverything();
    digestTellsEachCharacter();
    digestTellsTheShareMet();
    digestWrapsRound();
    check.end();
  }

  private static int[] seen(MeterPool x, int hours) {
    return ints(x.ifRun(hours, 0), x.ifRun(hours, 1), x.ifRun(hours, 2), x.ifRun(hours, 3), x.ifRun(hours, 4));
  }

  /** "hours: 1 to 100" and "what: 0 .. 4" */
  private static void ifRunFrom1To100() {
    MeterPool x = rich(0, 3);
    due("0", x.ifRun(0, 0), BAD);
    due("101", x.ifRun(101, 0), BAD);
    due("-1", x.ifRun(-1, 0), BAD);
    due("1", x.ifRun(1, 0), 3);
    due("100", x.ifRun(100, 0), 300);
    due("what -1", x.ifRun(1, -1), BAD);
    due("what 5", x.ifRun(1, 5), BAD);
    due("both", x.ifRun(0, 5), BAD);
    due("what 4", x.ifRun(1, 4), 0);
  }

  /** "what would be .. in them": what was before does not count */
  private static void ifRunFromNowOn() {
    MeterPool x = rich(0, 12, 1, 9, 2, 9);
    supply(x, "20,40");
    x.run(1);
    row("before", ints(x.account(1), x.feeder(1, 3), x.feeder(2, 3), x.account(3)), 12, 1, 1, 6);
    row("the next hour", seen(x, 1), 30, 0, 8, 0, 0);
    row("the next two", seen(x, 2), 42, 2, 14, 0, 2);
  }

  /** "0 for what would be used in them": nothing, until the credit is used up, and as much as there is */
  private static void usedInThem() {
    MeterPool x = new MeterPool();
    x.addHouse(0, 10);
    x.buy(0, 22);
    due("10", x.ifRun(1, 0), 10);
    due("20", x.ifRun(2, 0), 20);
    due("with the overdraft", x.ifRun(3, 0), 27);
    due("no more", x.ifRun(4, 0), 27);
    due("in 100 either", x.ifRun(100, 0), 27);
    due("nothing has passed", x.account(1) + x.count(2), 0);
  }

  /** "1 for how often a feeder would be shed": the one or the other one, each counts */
  private static void howOftenShed() {
    MeterPool x = rich(1, 15, 2, 15);
    for (int hours = 1; hours <= 5; hours++) {
      due("in " + hours, x.ifRun(hours, 1), hours);
    }
    due("none has passed", x.feeder(1, 3) + x.feeder(2, 3), 0);
    x.run(3);
    due("in 1 of then", x.ifRun(1, 1), 1);
    MeterPool y = rich(0, 20);
    due("none", y.ifRun(100, 1), 0);
  }

  /** "(twice in an hour in which both are)": not if the one wants nothing */
  private static void twiceInAnHour() {
    MeterPool x = rich(0, 20, 1, 1, 2, 1);
    due("both", x.ifRun(1, 1), 2);
    due("both in each", x.ifRun(3, 1), 6);
    x.setHouse(1, 1, 0);
    due("one", x.ifRun(1, 1), 1);
    x.setHouse(2, 3, 0);
    due("none", x.ifRun(100, 1), 0);
    // The credits are used up: the overdraft of one unit in the first hour alone.
    MeterPool y = new MeterPool();
    y.set(0, 1);
    supply(y, "0");
    y.addHouse(1, 1);
    y.addHouse(2, 1);
    due("in each, as none gets any", y.ifRun(50, 1), 100);
  }

  /** "2 for what would be spilled": none, or all that no battery takes */
  private static void spilledInThem() {
    MeterPool x = new MeterPool();
    x.setBattery(0, 0, 30);
    x.setBattery(0, 2, 100);
    x.setBattery(1, 1, 0);
    due("all goes in", x.ifRun(1, 2), 0);
    due("10 do not", x.ifRun(2, 2), 10);
    due("20 more", x.ifRun(3, 2), 30);
    due("in 100", x.ifRun(100, 2), 1970);
    x.run(3);
    due("not what was before", x.ifRun(1, 2), 20);
  }

  /** "3 for the charge of both batteries then": of both, and not only what comes in */
  private static void chargeThen() {
    MeterPool x = new MeterPool();
    supply(x, "50,0,0");
    for (int battery = 0; battery < 2; battery++) {
      x.setBattery(battery, 0, 15 + battery);
      x.setBattery(battery, 2, 100);
    }
    due("full", x.ifRun(1, 3), 31);
    x.run(1);
    due("still full", x.ifRun(1, 3), 31);
    x.addHouse(0, 16);
    x.buy(0, 500);
    due("16 less", x.ifRun(1, 3), 15);
    due("and 15 that are not half enough", x.ifRun(2, 3), 0);
    x.set(3, 100);
    due("15 that are too little", x.ifRun(2, 3), 15);
    due("full again", x.ifRun(3, 3), 31);
    due("now", x.account(5), 31);
  }

  /** "4 for how many houses would get less than their demand in the last one of them": not in one before it */
  private static void lessInTheLastOne() {
    MeterPool x = rich(0, 12, 0, 8);
    supply(x, "20,19,11,5,20");
    x.set(3, 100);
    int[] less = {0, 1, 1, 2, 0, 0, 1};
    for (int hours = 1; hours <= less.length; hours++) {
      due("in " + hours, x.ifRun(hours, 4), less[hours - 1]);
    }
  }

  /** The same, whatever the reason is; a house without demand never gets less */
  private static void lessForWhateverReason() {
    MeterPool x = rich(0, 5, 0, 5, 1, 5, 0, 12, 0, 0);
    x.setHouse(1, 3, 0);
    x.setHouse(4, 3, 0);
    x.addHouse(0, 50);
    // 5, 0, 5, 12, 0 and the overdraft of 5: feeder 1 is shed, 22 of 20 are left.
    due("not connected, shed, energy, credit", x.ifRun(1, 4), 3);
    x.set(3, 100);
    due("then the energy is there for the last one", x.ifRun(1, 4), 3);
    supply(x, "0");
    due("all with a demand", x.ifRun(1, 4), 5);
  }

  /** "Creates a pool without houses": what hours bring it */
  private static void emptyVillageAhead() {
    MeterPool x = new MeterPool();
    row("one hour", seen(x, 1), 0, 0, 18, 0, 0);
    row("a hundred", seen(x, 100), 0, 0, 1800, 0, 0);
  }

  /** "Tells what some hours would bring": just what they then bring */
  private static void ifRunAsTheyPass() {
    int[] hours = {1, 2, 3, 17, 48, 100};
    for (int h : hours) {
      for (int full = 0; full < 2; full++) {
        MeterPool x = full == 0 ? village() : full();
        int[] before = {x.feeder(1, 3) + x.feeder(2, 3), x.account(3)};
        int[] told = seen(x, h);
        int used = x.run(h);
        int less = 0;
        for (int house = 0; house < x.count(0); house++) {
          less += x.house(house, 6) < x.house(house, 1) ? 1 : 0;
        }
        row("of " + h, told, used, x.feeder(1, 3) + x.feeder(2, 3) - before[0], x.account(3) - before[1], x.account(5),
            less);
      }
    }
  }

  /** "Returns after how many hours that hour would begin, 0 to 199": 0 */
  private static void darkAtOnce() {
    MeterPool x = new MeterPool();
    x.addHouse(0, 6);
    due("the overdraft is too little", x.darkIn(0), 0);
    x.setHouse(0, 1, 5);
    due("it is enough for one", x.darkIn(0), 1);
    due("no house 1", x.darkIn(1), BAD);
    due("no house -1", x.darkIn(-1), BAD);
  }

  /** "of the next 200": the last one of them begins after 199 */
  private static void darkInTheLastOf200() {
    MeterPool x = new MeterPool();
    x.addHouse(0, 1);
    x.buy(0, 193);
    due("198", x.darkIn(0), 198);
    x.buy(0, 1);
    due("199", x.darkIn(0), 199);
    x.buy(0, 1);
    due("200 is too late", x.darkIn(0), NONE);
    x.run(1);
    due("an hour later", x.darkIn(0), 199);
  }

  /** "NONE if there is none": also without a demand */
  private static void neverDark() {
    MeterPool x = new MeterPool();
    x.addHouse(0, 0);
    due("without a demand", x.darkIn(0), NONE);
    x.setHouse(0, 3, 0);
    due("and not connected", x.darkIn(0), NONE);
    supply(x, "0");
    due("and without supply", x.darkIn(0), NONE);
    MeterPool y = rich(1, 2);
    due("with a lot of credit", y.darkIn(0), NONE);
  }

  /** "for whatever reason": connection, credit, shedding, energy */
  private static void darkForWhateverReason() {
    MeterPool x = rich(0, 5, 1, 8, 2, 6);
    supply(x, "20,18,5,3");
    due("energy", x.darkIn(0), 3);
    due("shed", x.darkIn(1), 1);
    due("shed as the other one", x.darkIn(2), 2);
    x.setHouse(2, 3, 0);
    due("not connected", x.darkIn(2), 0);
    due("shed later then", x.darkIn(1), 2);
    x.setHouse(0, 1, 1);
    x.addHouse(0, 2);
    due("credit", x.darkIn(3), 2);
  }

  /** "of the next 200": from the present hour on */
  private static void darkFromNowOn() {
    MeterPool x = rich(0, 10);
    supply(x, "20*6,0");
    due("at hour 6", x.darkIn(0), 6);
    x.run(4);
    due("in two", x.darkIn(0), 2);
    x.run(2);
    due("at once", x.darkIn(0), 0);
    x.run(1);
    due("in the next round", x.darkIn(0), 6);
  }

  /** "Finds the first hour": of several */
  private static void firstDarkHour() {
    MeterPool x = rich(0, 10);
    supply(x, "20,10,9,8,20");
    due("a part", x.darkIn(0), 2);
    x.setHouse(0, 1, 9);
    due("later", x.darkIn(0), 3);
    x.setHouse(0, 1, 8);
    due("the credit ends first", x.darkIn(0), 63);
  }

  /** "in which a house would get less": that house, and not another one */
  private static void darkIsNotUnmetElsewhere() {
    MeterPool x = rich(0, 2, 1, 30, 0, 2);
    due("shed", x.darkIn(1), 0);
    due("the first", x.darkIn(0), NONE);
    due("the last", x.darkIn(2), NONE);
  }

  /** "hours: 1 to 48" */
  private static void tokenFrom1To48Hours() {
    MeterPool x = new MeterPool();
    x.addHouse(0, 10);
    due("0", x.tokenFor(0, 0), BAD);
    due("49", x.tokenFor(0, 49), BAD);
    due("-1", x.tokenFor(0, -1), BAD);
    due("1", x.tokenFor(0, 1), 5);
    due("48", x.tokenFor(0, 48), 475);
    due("house 1", x.tokenFor(1, 1), BAD);
    due("house -1", x.tokenFor(-1, 1), BAD);
  }

  /** "Returns 0 if it would without a token": just, and not any more an hour later */
  private static void noTokenIsNeeded() {
    MeterPool x = new MeterPool();
    x.addHouse(0, 10);
    x.buy(0, 25);
    due("3 hours", x.tokenFor(0, 3), 0);
    due("4 hours", x.tokenFor(0, 4), 10);
    x.buy(0, 1);
    due("4 hours then", x.tokenFor(0, 4), 9);
    x.setHouse(0, 2, 1000);
    due("0 with a debt too", x.tokenFor(0, 3), 0);
  }

  /** "the least token with which a house would get its demand in each of some hours": it does, one less does not */
  private static void leastToken() {
    for (int hours = 1; hours <= 48; hours += 5) {
      MeterPool x = new MeterPool();
      x.addHouse(0, 7);
      x.setHouse(0, 2, 60);
      int token = x.tokenFor(0, hours);
      check.holds("a token for " + hours, token > 0);
      due("bought", x.buy(0, token), token - Math.min(60, token * 40 / 100));
      due("used in " + hours, x.run(hours), 7 * hours);
      due("reason after " + hours, x.house(0, 7), 0);
      x.undo();
      x.undo();
      if (token > 1) {
        x.buy(0, token - 1);
        due("less in " + hours, x.run(hours) < 7 * hours ? 1 : 0, 1);
      }
    }
  }

  /** "otherwise the token, 1 to 500" */
  private static void tokenOf1And500() {
    MeterPool x = new MeterPool();
    x.addHouse(0, 6);
    due("1", x.tokenFor(0, 1), 1);
    x.set(0, 0);
    x.setHouse(0, 1, 20);
    due("500", x.tokenFor(0, 25), 500);
    due("520", x.tokenFor(0, 26), NONE);
    x.buy(0, 20);
    due("500 for the rest", x.tokenFor(0, 26), 500);
    x.lend(0, x.addHouse(0, 0), 1);
    due("501 for the rest", x.tokenFor(0, 26), NONE);
  }

  /** "NONE if there is none": for want of energy no token helps */
  private static void noTokenHelps() {
    MeterPool x = new MeterPool();
    x.addHouse(0, 21);
    due("energy", x.tokenFor(0, 1), NONE);
    x.setHouse(0, 1, 20);
    due("just the energy", x.tokenFor(0, 1), 15);
    supply(x, "20,20,19");
    due("two hours", x.tokenFor(0, 2), 35);
    due("the third one", x.tokenFor(0, 3), NONE);
    MeterPool y = rich(0, 15);
    y.addHouse(1, 6);
    due("shed", y.tokenFor(1, 1), NONE);
    y.setHouse(1, 1, 5);
    due("not shed, and the overdraft is enough", y.tokenFor(1, 1), 0);
  }

  /** "(its debt and loans are paid by it)": the debt */
  private static void debtIsPaidByIt() {
    MeterPool x = new MeterPool();
    x.addHouse(0, 10);
    x.setHouse(0, 2, 1000);
    // 5 are needed: of 7 units 2 go to the debt, of 8 units 3.
    due("40 percent", x.tokenFor(0, 1), 7);
    x.set(1, 99);
    // Of 401 units 396 go to it, and 5 are left; of 400 units 4 are left.
    due("99 percent", x.tokenFor(0, 1), 401);
    x.set(1, 100);
    due("all", x.tokenFor(0, 1), NONE);
    x.setHouse(0, 2, 495);
    due("all, till it is paid", x.tokenFor(0, 1), 500);
    x.setHouse(0, 2, 496);
    due("one more", x.tokenFor(0, 1), NONE);
    due("nothing was paid", x.account(7), 0);
  }

  /** "but not more than the debt", in a token that is only thought of */
  private static void debtSmallerThanItsShare() {
    MeterPool x = new MeterPool();
    x.addHouse(0, 10);
    x.setHouse(0, 2, 1);
    due("one unit", x.tokenFor(0, 1), 6);
    x.setHouse(0, 2, 2);
    due("two units", x.tokenFor(0, 1), 7);
    due("of more too", x.tokenFor(0, 3), 27);
  }

  /** "(its debt and loans are paid by it)": the loans */
  private static void loansArePaidByIt() {
    MeterPool x = new MeterPool();
    x.addHouse(0, 10);
    x.addHouse(2, 0);
    x.buy(1, 100);
    x.lend(1, 0, 3);
    x.lend(1, 0, 4);
    due("two more are needed", x.house(0, 5), 10);
    due("for one hour", x.tokenFor(0, 1), 0);
    // 8 are needed: of 15 units 7 go to loans; of 14 units 7 as well; of 16 not more than 7.
    due("for two hours", x.tokenFor(0, 2), 15);
    x.set(2, 100);
    due("all to loans", x.tokenFor(0, 2), 15);
    x.set(2, 10);
    due("less to loans", x.tokenFor(0, 2), 8);
    x.set(2, 20);
    // Of 9 units 1 goes to loans, of 10 units 2.
    due("a fifth to loans", x.tokenFor(0, 2), 9);
    x.setHouse(0, 2, 1000);
    // Of 13 units 5 go to the debt and 1 of the 8 to loans, of 14 units 5 and 1 of the 9.
    due("both", x.tokenFor(0, 2), 14);
    due("nothing was paid", x.house(0, 9), 7);
  }

  /** The same: what the lender gets of it, it draws, and that may be too much */
  private static void lenderDrawsMore() {
    MeterPool x = new MeterPool();
    x.set(0, 0);
    x.addHouse(1, 10);
    x.addHouse(1, 50);
    x.buy(1, 30);
    x.lend(1, 0, 30);
    // Four hours need 10 more: of 19 units 9 go to the lender, who draws them beside the 10 in the first hour.
    due("more than enough energy", x.tokenFor(0, 4), 19);
    supply(x, "19");
    due("just enough energy", x.tokenFor(0, 4), 19);
    supply(x, "18");
    due("one less", x.tokenFor(0, 4), NONE);
    x.set(2, 0);
    due("nothing to loans", x.tokenFor(0, 4), 10);
  }

  /** "the least token": a greater one may help where a lesser one, with credit enough, does not */
  private static void tokenByWhichAnotherIsShed() {
    MeterPool x = new MeterPool();
    x.set(0, 0);
    x.addHouse(0, 10);
    x.addHouse(1, 10);
    x.addHouse(1, 50);
    x.buy(1, 500);
    x.buy(2, 20);
    x.lend(2, 0, 20);
    supply(x, "20,0");
    x.setBattery(0, 0, 100);
    x.setBattery(0, 2, 100);
    // In the first hour nothing is left for the battery, unless the lender wants something too: feeder 1 is shed then.
    due("credit for both hours", x.house(0, 4), 20);
    due("for the first", x.tokenFor(0, 1), 0);
    due("for both", x.tokenFor(0, 2), 2);
    x.buy(0, 1);
    due("one unit pays no loan", x.darkIn(0), 1);
    x.buy(0, 2);
    due("two units do", x.darkIn(0), 2);
  }

  /** "a house that is not connected cannot draw any": whatever it buys */
  private static void tokenOfOneNotConnected() {
    MeterPool x = rich(0, 1);
    x.setHouse(0, 3, 0);
    due("with a demand", x.tokenFor(0, 1), NONE);
    x.setHouse(0, 1, 0);
    due("without a demand", x.tokenFor(0, 48), 0);
  }

  /** "0 if it would without a token": a demand of 0 is met, also far below the overdraft and without supply */
  private static void tokenWithoutDemand() {
    MeterPool x = new MeterPool();
    x.set(0, 50);
    x.addHouse(1, 20);
    x.run(1);
    due("credit", x.house(0, 4), -20);
    x.set(0, 0);
    x.setHouse(0, 1, 0);
    supply(x, "0");
    due("no demand", x.tokenFor(0, 48), 0);
    x.setHouse(0, 1, 1);
    due("no supply", x.tokenFor(0, 1), NONE);
    supply(x, "1");
    due("below the overdraft", x.tokenFor(0, 1), 21);
  }

  /** "if it bought it now": the hours are those from now on */
  private static void tokenFromNowOn() {
    MeterPool x = new MeterPool();
    x.addHouse(0, 10);
    supply(x, "10*3,9");
    due("three hours", x.tokenFor(0, 3), 25);
    due("four hours", x.tokenFor(0, 4), NONE);
    x.buy(0, 5);
    x.run(2);
    due("one more", x.tokenFor(0, 1), 10 - x.house(0, 5));
    due("two more", x.tokenFor(0, 2), NONE);
    x.run(2);
    due("three in the next round", x.tokenFor(0, 3), 30 - 5 - x.house(0, 4));
  }

  /** Promise 30: "the sum of what all houses .. got": 0 of some demand */
  private static void metNothing() {
    MeterPool x = new MeterPool();
    x.addHouse(0, 5);
    check.dueDouble("before an hour", x.met(), 0.0);
    supply(x, "0");
    x.run(1);
    check.dueDouble("nothing", x.met(), 0.0);
  }

  /** The same: all of it, and a part, as a double */
  private static void metAll() {
    MeterPool x = rich(0, 10, 0, 10);
    x.run(1);
    check.dueDouble("all", x.met(), 1.0);
    x.setHouse(1, 1, 11);
    check.dueDouble("20 of 21", x.met(), 20.0 / 21.0);
    x.set(3, 100);
    x.run(1);
    check.dueDouble("10 of 21", x.met(), 10.0 / 21.0);
    x.setHouse(1, 1, 20);
    check.dueDouble("10 of 30", x.met(), 1.0 / 3.0);
  }

  /** "of what all houses that there are now got" */
  private static void metByThoseThereAreNow() {
    MeterPool x = rich(0, 8, 0, 12);
    x.run(1);
    x.addHouse(0, 20);
    check.dueDouble("with a new one", x.met(), 0.5);
    x.removeHouse(0);
    check.dueDouble("without the first", x.met(), 12.0 / 32.0);
    x.removeHouse(0);
    check.dueDouble("the new one alone", x.met(), 0.0);
    x.removeHouse(0);
    check.dueDouble("none", x.met(), 1.0);
    x.undo();
    x.undo();
    check.dueDouble("two again", x.met(), 12.0 / 32.0);
  }

  /** "divided by the sum of their demands as they are now": it may be more than 1 */
  private static void metByDemandsAsTheyAreNow() {
    MeterPool x = rich(0, 20);
    x.run(1);
    x.setHouse(0, 1, 50);
    check.dueDouble("20 of 50", x.met(), 0.4);
    x.setHouse(0, 1, 3);
    check.dueDouble("20 of 3", x.met(), 20.0 / 3.0);
    x.setHouse(0, 1, 1);
    check.dueDouble("20 of 1", x.met(), 20.0);
    x.setHouse(0, 3, 0);
    check.dueDouble("not connected now", x.met(), 20.0);
  }

  /** "1.0 if that is 0" */
  private static void metWithoutDemand() {
    check.dueDouble("no house", new MeterPool().met(), 1.0);
    MeterPool x = rich(0, 20, 1, 0);
    x.run(1);
    x.setHouse(0, 1, 0);
    check.dueDouble("no demand now", x.met(), 1.0);
    x.setHouse(1, 1, 1);
    check.dueDouble("a demand now", x.met(), 20.0);
  }

  private static long hash(long start, int... values) {
    long hash = start;
    for (int value : values) {
      hash = 31L * hash + value;
    }
    return hash;
  }

  /** The values in the document's order, each from the call that tells it; the text is the caller's. */
  private static long digestOf(MeterPool x, String text) {
    long hash = hash(2111L, counts(x));
    hash = hash(hash, x.setting(0), x.setting(1), x.setting(2), x.setting(3));
    hash = hash(hash, accounts(x));
    for (int house = 0; house < x.count(0); house++) {
      hash = hash(hash, houseRow(x, house));
    }
    for (int loan = 0; loan < x.count(1); loan++) {
      hash = hash(hash, loanRow(x, loan));
    }
    hash = hash(hash(hash, batteryRow(x, 0)), batteryRow(x, 1));
    for (int feeder = 0; feeder < 3; feeder++) {
      hash = hash(hash, feederRow(x, feeder));
    }
    hash = hash(hash(hash, listOf(x)), seen(x, 24));
    hash = 31L * hash + Double.doubleToLongBits(x.met());
    hash = 31L * hash + text.length();
    for (int i = 0; i < text.length(); i++) {
      hash = 31L * hash + text.charAt(i);
    }
    return hash;
  }

  /** "The hash starts as 2111": of a pool without houses, loans and text */
  private static void digestOfANewOne() {
    MeterPool x = new MeterPool();
    due("new", x.digest(), digestOf(x, ""));
    due("again", x.digest(), digestOf(new MeterPool(), ""));
  }

  /** "for each house .. for each loan .. the numbers of the list": one of each, some, and as many as there can be */
  private static void digestOfEverything() {
    MeterPool x = new MeterPool();
    x.addHouse(1, 5);
    due("a house", x.digest(), digestOf(x, ""));
    MeterPool y = village();
    due("a village", y.digest(), digestOf(y, "12*3,"));
    String text = "1,1,1,1,1,1,1,1,1,1,";
    MeterPool z = full();
    due("a full one", z.digest(), digestOf(z, text + text + text));
  }

  /** "the length of the text and each of its character codes": from none to 60 */
  private static void digestTellsEachCharacter() {
    MeterPool x = new MeterPool();
    StringBuilder text = new StringBuilder();
    for (int i = 0; i < 4; i++) {
      int code = i == 0 ? 33 : i == 1 ? 126 : 40 + i;
      x.type(code);
      text.append((char) code);
      due("after " + text, x.digest(), digestOf(x, text.toString()));
    }
    x.clear();
    due("cleared", x.digest(), digestOf(x, ""));
  }

  /** "met as Double.doubleToLongBits": 0, the least and the greatest share, and those about 1 and 2 */
  private static void digestTellsTheShareMet() {
    MeterPool x = new MeterPool();
    supply(x, "500");
    for (int house = 0; house < 10; house++) {
      x.addHouse(0, 50);
      x.buy(house, 100);
    }
    x.setHouse(0, 1, 1);
    x.run(1);
    check.dueDouble("451 of 451", x.met(), 1.0);
    due("451 of 451", x.digest(), digestOf(x, ""));
    for (int house = 1; house < 10; house++) {
      x.setHouse(house, 1, 0);
    }
    check.dueDouble("451 of 1", x.met(), 451.0);
    due("451 of 1", x.digest(), digestOf(x, ""));
    MeterPool y = new MeterPool();
    for (int house = 0; house < 10; house++) {
      y.addHouse(0, house == 0 ? 1 : 50);
    }
    check.dueDouble("0 of 451", y.met(), 0.0);
    due("0 of 451", y.digest(), digestOf(y, ""));
    y.set(0, 1);
    supply(y, "1");
    y.run(1);
    y.setHouse(0, 1, 50);
    check.dueDouble("1 of 500", y.met(), 0.002);
    due("1 of 500", y.digest(), digestOf(y, ""));
    for (int demand = 1; demand <= 50; demand++) {
      MeterPool z = rich(0, 20);
      z.run(1);
      z.setHouse(0, 1, demand);
      check.dueDouble("20 of " + demand, z.met(), 20.0 / demand);
      due("20 of " + demand, z.digest(), digestOf(z, ""));
    }
  }

  /** "in long arithmetic with overflow": 31 to the power of 13 is already beyond a long */
  private static void digestWrapsRound() {
    MeterPool x = new MeterPool();
    java.math.BigInteger hash = java.math.BigInteger.valueOf(2111);
    int[] values = {0, 0, 0, 1, 1, 0, 0, 0, 5, 40, 50, 50, 0, 0, 0, 0, 0, 0, 0, 0, 0, 20, 90, 0, 0, 0, 20, 90, 0, 0,
        0, 0, 0, 0, 0, 0, 0, 0, 0, 0, 0, 0, 0, 0, 0, 20, 0, 0, 432, 0, 0};
    for (int value : values) {
      hash = hash.multiply(java.math.BigInteger.valueOf(31)).add(java.math.BigInteger.valueOf(value));
    }
    hash = hash.multiply(java.math.BigInteger.valueOf(31)).add(java.math.BigInteger.valueOf(0x3ff0000000000000L));
    hash = hash.multiply(java.math.BigInteger.valueOf(31));
    due("new", x.digest(), hash.longValue());
  }
}
