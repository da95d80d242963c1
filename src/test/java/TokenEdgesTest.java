/**
 * The sentences of "Tokens and loans" and of promises 5 to 8, 20 and 23 that name a boundary case, each with a test of
 * its own; the sentence stands above it. What is refused stands in RefusalsTest.
 */
public final class TokenEdgesTest extends PoolChecks {
  public static void main(String[] args) {
    unitsFrom1To500();
    notMoreThanTheDebt();
    shareOfTheDebtRoundedDown();
    noShareOrAllForTheDebt();
    restForLoans();
    notMoreThanAllLoans();
    shareForLoansRoundedDown();
    noShareOrAllForLoans();
    oldestLoanFirst();
    wholeBeforeTheNext();
    lendersGetIt();
    lendersPayNothingOfIt();
    ownLoansAlone();
    whatRemains();
    creditThen();
    tokenBelowTheOverdraft();
    lendFrom1To200();
    anotherHouse();
    lessThanUnits();
    overdraftIsNotLent();
    goesFromTheOneToTheOther();
    lendInAnyCondition();
    twelveLoans();
    fullComesAndGoes();
    numberedFrom0();
    aboveZero();
    paidWhollyIsGone();
    remitFirstAndLast();
    remitTheTwelfth();
    remitLeavesCredits();
    netWithoutAPair();
    sameTwoHouses();
    lesserAmount();
    equalAmounts();
    oldestPairFirst();
    lowestSecondOne();
    foundAnew();
    twelveNetted();
    twelveWithoutAPair();
    goneLoansAreNotNetted();
    accountsOfTokens();
    check.end();
  }

  /** Houses of demand 1 on feeder 0, each with the credit. */
  private static MeterPool withCredit(int... credits) {
    MeterPool x = new MeterPool();
    for (int i = 0; i < credits.length; i++) {
      x.addHouse(0, 1);
      if (credits[i] > 0) {
        due("credit", x.buy(i, credits[i]), credits[i]);
      }
    }
    return x;
  }

  /** "units: 1 to 500" */
  private static void unitsFrom1To500() {
    MeterPool x = withCredit(0, 0);
    due("0", x.buy(0, 0), BAD);
    due("501", x.buy(0, 501), BAD);
    due("1", x.buy(0, 1), 1);
    due("500", x.buy(1, 500), 500);
    due("house 2", x.buy(2, 1), BAD);
    due("house -1", x.buy(-1, 1), BAD);
    due("tokens", x.account(6), 501);
  }

  /** "pays its debt with the units * setting 1 / 100, but not more than the debt" */
  private static void notMoreThanTheDebt() {
    // 40 of 100 units: the debt is one more, as much, and one less.
    int[][] rows = {{41, 60, 1, 40}, {40, 60, 0, 40}, {39, 61, 0, 39}, {1, 99, 0, 1}, {0, 100, 0, 0}};
    for (int[] r : rows) {
      MeterPool x = withCredit(0);
      x.setHouse(0, 2, r[0]);
      due("credit with a debt of " + r[0], x.buy(0, 100), r[1]);
      due("debt left of " + r[0], x.house(0, 2), r[2]);
      due("paid of " + r[0], x.account(7), r[3]);
    }
  }

  /** "all divisions are rounded down": the share for the debt */
  private static void shareOfTheDebtRoundedDown() {
    // Units, setting 1, paid: 1.2, 0.8, 0.99, 1, 1.01, 4.95
    int[][] rows = {{3, 40, 1}, {2, 40, 0}, {99, 1, 0}, {100, 1, 1}, {101, 1, 1}, {5, 99, 4}, {1, 99, 0}, {1, 100, 1}};
    for (int[] r : rows) {
      MeterPool x = withCredit(0);
      x.setHouse(0, 2, 1000);
      x.set(1, r[1]);
      due("of " + r[0] + " at " + r[1], x.buy(0, r[0]), r[0] - r[2]);
      due("paid of " + r[0] + " at " + r[1], x.account(7), r[2]);
      due("left of " + r[0] + " at " + r[1], x.house(0, 2), 1000 - r[2]);
    }
  }

  /** "the share of a token that goes to the debt, in percent, 0 to 100": 0 and 100 */
  private static void noShareOrAllForTheDebt() {
    MeterPool x = withCredit(0);
    x.setHouse(0, 2, 1000);
    x.set(1, 0);
    due("nothing", x.buy(0, 500), 500);
    due("the debt stays", x.house(0, 2), 1000);
    x.set(1, 100);
    due("all", x.buy(0, 500), 500);
    due("half of the debt", x.house(0, 2), 500);
    due("all again", x.buy(0, 499), 500);
    due("one is left", x.house(0, 2), 1);
    due("one is paid", x.buy(0, 500), 999);
    due("none is left", x.house(0, 2), 0);
    due("paid", x.account(7), 1000);
  }

  /** "with the rest, r, it pays its loans with r * setting 2 / 100": the rest of what the debt took, not of its share */
  private static void restForLoans() {
    MeterPool x = withCredit(500, 0);
    x.lend(0, 1, 200);
    x.setHouse(1, 2, 10);
    // The debt takes 10 and not 40 of 100: the half of 90 goes to the loan.
    due("credit", x.buy(1, 100), 200 + 45);
    due("loan", x.loan(0, 2), 155);
    due("the lender", x.house(0, 4), 345);
    x.setHouse(1, 2, 1000);
    due("credit of 60", x.buy(1, 100), 245 + 30);
    due("loan of 60", x.loan(0, 2), 125);
  }

  /** "but not more than all its loans together" */
  private static void notMoreThanAllLoans() {
    // 50 of 100 units: the loans of 20 and the other one are 51, 50 and 49.
    int[][] rows = {{31, 1, 50}, {30, 0, 50}, {29, 0, 49}};
    for (int[] r : rows) {
      MeterPool x = withCredit(100, 0, 100);
      x.lend(0, 1, 20);
      x.lend(2, 1, r[0]);
      due("credit at " + r[0], x.buy(1, 100), 20 + r[0] + 100 - r[2]);
      due("loans at " + r[0], x.count(1), r[1]);
      due("owed at " + r[0], x.house(1, 9), r[1]);
      row("lenders at " + r[0], ints(x.house(0, 4), x.house(2, 4)), 100, 100 - r[1]);
    }
    // The greatest token, and the greatest loans: all of 500 goes to three of twelve.
    MeterPool y = withCredit(500, 0);
    y.set(2, 100);
    for (int i = 0; i < 12; i++) {
      y.buy(0, 200);
      y.lend(0, 1, 200);
    }
    due("owed", y.house(1, 9), 2400);
    due("nothing remains", y.buy(1, 500), 2400);
    row("two are paid and half of one", ints(y.count(1), y.house(1, 9), y.loan(0, 2)), 10, 1900, 100);
    due("the lender", y.house(0, 4), 1000);
  }

  /** "all divisions are rounded down": the share for loans */
  private static void shareForLoansRoundedDown() {
    // Units, setting 2, paid: 0.5, 1.5, 0.99, 1, 4.95
    int[][] rows = {{1, 50, 0}, {3, 50, 1}, {99, 1, 0}, {100, 1, 1}, {5, 99, 4}, {1, 100, 1}};
    for (int[] r : rows) {
      MeterPool x = withCredit(200, 0);
      x.lend(0, 1, 100);
      x.set(2, r[1]);
      due("of " + r[0] + " at " + r[1], x.buy(1, r[0]), 100 + r[0] - r[2]);
      due("owed of " + r[0] + " at " + r[1], x.loan(0, 2), 100 - r[2]);
      due("lender of " + r[0] + " at " + r[1], x.house(0, 4), 100 + r[2]);
    }
    // 3 units: 1 to the debt, of the 2 that are left 1 to the loan; half of 3 is 1 as well, half of 1 were none.
    MeterPool x = withCredit(200, 0);
    x.lend(0, 1, 100);
    x.setHouse(1, 2, 9);
    due("rounded twice", x.buy(1, 3), 101);
  }

  /** "the share of the rest that goes to loans, in percent, 0 to 100": 0 and 100 */
  private static void noShareOrAllForLoans() {
    MeterPool x = withCredit(200, 0);
    x.lend(0, 1, 100);
    x.set(2, 0);
    due("nothing", x.buy(1, 50), 150);
    due("the loan stays", x.loan(0, 2), 100);
    x.set(2, 100);
    due("all", x.buy(1, 99), 150);
    due("one is left", x.loan(0, 2), 1);
    due("one is paid", x.buy(1, 500), 649);
    due("the loan is gone", x.count(1), 0);
    due("the lender", x.house(0, 4), 200);
  }

  /** "the oldest loan first" */
  private static void oldestLoanFirst() {
    MeterPool x = withCredit(100, 0, 100);
    x.lend(2, 1, 50);
    x.lend(0, 1, 10);
    x.buy(1, 40);
    row("the older one", loanRow(x, 0), 2, 1, 30);
    row("the later one", loanRow(x, 1), 0, 1, 10);
    // It stays the older one, also when the lender lends again.
    x.lend(2, 1, 5);
    x.buy(1, 40);
    row("the older one then", loanRow(x, 0), 2, 1, 10);
    row("the later one then", loanRow(x, 1), 0, 1, 10);
    row("the latest one then", loanRow(x, 2), 2, 1, 5);
  }

  /** "each wholly before the next one" */
  private static void wholeBeforeTheNext() {
    // Half of the units goes to loans of 10, 20 and 30.
    int[][] rows = {{18, 1, 20, 30}, {20, 20, 30, BAD}, {22, 19, 30, BAD}, {58, 1, 30, BAD}, {60, 30, BAD, BAD},
        {62, 29, BAD, BAD}, {118, 1, BAD, BAD}, {120, BAD, BAD, BAD}, {500, BAD, BAD, BAD}};
    for (int[] r : rows) {
      MeterPool x = withCredit(100, 0, 100);
      x.lend(0, 1, 10);
      x.lend(2, 1, 20);
      x.lend(0, 1, 30);
      x.buy(1, r[0]);
      row("owed after " + r[0], ints(x.loan(0, 2), x.loan(1, 2), x.loan(2, 2)), r[1], r[2], r[3]);
    }
  }

  /** "the credits of the lenders increase by that": each by what is paid to it */
  private static void lendersGetIt() {
    MeterPool x = withCredit(100, 0, 100, 100);
    x.lend(0, 1, 10);
    x.lend(2, 1, 20);
    x.lend(3, 1, 30);
    x.lend(0, 1, 40);
    row("credits", ofAll(x, 4), 50, 100, 80, 70);
    // 70: 10 and 20 and 30 and 10.
    x.buy(1, 140);
    row("credits then", ofAll(x, 4), 70, 170, 100, 100);
    due("one loan", x.count(1), 1);
    row("the last one", loanRow(x, 0), 0, 1, 30);
  }

  /** "the credits of the lenders increase by that": a lender's own debt and loans stay */
  private static void lendersPayNothingOfIt() {
    MeterPool x = withCredit(100, 100, 100);
    x.lend(1, 0, 50);
    x.lend(0, 2, 60);
    x.setHouse(0, 2, 500);
    due("credit of the lender", x.house(0, 4), 90);
    x.buy(2, 80);
    due("40 more", x.house(0, 4), 130);
    due("the debt stays", x.house(0, 2), 500);
    due("the loan stays", x.house(0, 9), 50);
    due("nothing was paid to the pool", x.account(7), 0);
  }

  /** "pays its loans": not those of others, nor those that it lent */
  private static void ownLoansAlone() {
    MeterPool x = withCredit(100, 100, 100);
    x.lend(0, 1, 10);
    x.lend(1, 0, 20);
    x.lend(0, 2, 30);
    x.lend(1, 2, 40);
    x.buy(0, 500);
    due("three are left", x.count(1), 3);
    row("the first", loanRow(x, 0), 0, 1, 10);
    row("the second", loanRow(x, 1), 0, 2, 30);
    row("the third", loanRow(x, 2), 1, 2, 40);
    // 500 and the 20 of house 1, of which 20 went back to it.
    row("credits", ofAll(x, 4), 100 - 10 + 20 - 30 + 480, 100 + 10 - 20 - 40 + 20, 170);
  }

  /** "What remains is added to its own credit": also if nothing remains */
  private static void whatRemains() {
    MeterPool x = withCredit(200, 0);
    x.lend(0, 1, 100);
    x.setHouse(1, 2, 10);
    x.set(1, 100);
    x.set(2, 100);
    due("all for the debt", x.buy(1, 10), 100);
    due("all for the loan", x.buy(1, 10), 100);
    due("owed", x.loan(0, 2), 90);
    due("all for the loan and one more", x.buy(1, 91), 101);
    due("nothing but credit", x.buy(1, 1), 102);
  }

  /** "Returns the credit of the house then": also when it is negative or 0 */
  private static void creditThen() {
    MeterPool x = withCredit(0);
    x.setHouse(0, 1, 20);
    x.set(0, 50);
    x.run(1);
    due("credit", x.house(0, 4), -20);
    due("negative", x.buy(0, 19), -1);
    due("zero", x.buy(0, 1), 0);
    due("positive", x.buy(0, 1), 1);
  }

  /** "What remains is added to its own credit": a negative credit is no debt to be paid by the share */
  private static void tokenBelowTheOverdraft() {
    MeterPool x = withCredit(0);
    x.setHouse(0, 1, 5);
    x.run(1);
    x.setHouse(0, 2, 100);
    due("6 of 10", x.buy(0, 10), 1);
    due("4 of 10", x.house(0, 2), 96);
  }

  /** "units: 1 to 200" */
  private static void lendFrom1To200() {
    MeterPool x = withCredit(500, 500);
    due("0", x.lend(0, 1, 0), BAD);
    due("201", x.lend(0, 1, 201), BAD);
    due("1", x.lend(0, 1, 1), 1);
    due("200", x.lend(0, 1, 200), 2);
    row("owed", ints(x.loan(0, 2), x.loan(1, 2)), 1, 200);
  }

  /** "borrower: the borrower, another house" */
  private static void anotherHouse() {
    MeterPool x = withCredit(50, 50, 50);
    for (int house = 0; house < 3; house++) {
      due("itself", x.lend(house, house, 1), BAD);
    }
    due("the first to the last", x.lend(0, 2, 1), 1);
    due("the last to the first", x.lend(2, 0, 1), 2);
    due("one that is not there", x.lend(0, 3, 1), BAD);
    due("from one that is not there", x.lend(3, 0, 1), BAD);
  }

  /** "STATE if the credit of the lender is less than units" */
  private static void lessThanUnits() {
    MeterPool x = withCredit(10, 0);
    due("one more", x.lend(0, 1, 11), STATE);
    due("as much", x.lend(0, 1, 10), 1);
    due("nothing is left", x.house(0, 4), 0);
    due("one more than nothing", x.lend(0, 1, 1), STATE);
    due("what was borrowed can be lent", x.lend(1, 0, 10), 2);
    due("one less", x.lend(0, 1, 9), 3);
    row("credits", ofAll(x, 4), 1, 9);
  }

  /** The same: the overdraft is no credit, and less than none is less than 1 */
  private static void overdraftIsNotLent() {
    MeterPool x = withCredit(0, 0);
    x.set(0, 50);
    due("none", x.lend(0, 1, 1), STATE);
    x.setHouse(0, 1, 7);
    x.run(1);
    due("negative", x.house(0, 4), -7);
    due("less than none", x.lend(0, 1, 1), STATE);
    x.buy(0, 8);
    due("just one", x.lend(0, 1, 1), 1);
  }

  /** "it goes from the one house to the other one": a negative credit of the borrower takes it up */
  private static void goesFromTheOneToTheOther() {
    MeterPool x = withCredit(0, 200);
    x.setHouse(0, 1, 5);
    x.run(1);
    due("negative", x.house(0, 4), -5);
    due("lent", x.lend(1, 0, 5), 1);
    due("zero", x.house(0, 4), 0);
    due("no more negative ones", x.count(7), 0);
    due("the lender", x.house(1, 4), 194);
    due("no token", x.account(6), 200);
  }

  /** Promise 6 names no other condition: debts, loans, a negative credit and no connection are none */
  private static void lendInAnyCondition() {
    MeterPool x = withCredit(50, 0);
    x.setHouse(0, 2, 1000);
    x.setHouse(1, 2, 1000);
    due("with debts", x.lend(0, 1, 5), 1);
    x.setHouse(0, 3, 0);
    x.setHouse(1, 3, 0);
    due("not connected", x.lend(0, 1, 5), 2);
    due("the other way round", x.lend(1, 0, 2), 3);
    row("debts stay", ofAll(x, 2), 1000, 1000);
    row("credits", ofAll(x, 4), 42, 8);
    row("each its own", ints(x.loan(0, 2), x.loan(1, 2), x.loan(2, 2)), 5, 5, 2);
  }

  /** "There are at most 12 loans" and "FULL if there are 12 loans" */
  private static void twelveLoans() {
    MeterPool x = withCredit(200, 200);
    for (int i = 1; i <= 12; i++) {
      due("loan " + i, x.lend(i % 2, 1 - i % 2, i), i);
    }
    due("thirteenth", x.lend(0, 1, 1), FULL);
    due("the other way round", x.lend(1, 0, 1), FULL);
    due("loans", x.count(1), 12);
    row("the last one", loanRow(x, 11), 0, 1, 12);
    due("no thirteenth", x.loan(12, 0), BAD);
    row("credits", ofAll(x, 4), 200 - 6, 200 + 6);
  }

  /** "FULL if there are 12 loans": not any more when one is gone, in whatever way */
  private static void fullComesAndGoes() {
    MeterPool x = withCredit(300, 300);
    for (int i = 1; i <= 12; i++) {
      x.lend(0, 1, 1 + i);
    }
    x.keep(0);
    due("remitted", x.remit(0), 2);
    due("again", x.lend(1, 0, 4), 12);
    due("and full", x.lend(1, 0, 1), FULL);
    due("netted", x.net(), 4);
    due("two are gone", x.count(1), 10);
    x.lend(1, 0, 1);
    due("full again", x.lend(1, 0, 1) + x.lend(1, 0, 1), 12 + FULL);
    due("taken back", x.undo(), 7);
    due("full once more", x.lend(0, 1, 1) + x.lend(0, 1, 1), 12 + FULL);
    x.buy(1, 6);
    due("one is paid", x.count(1), 11);
    due("a last time", x.lend(0, 1, 1), 12);
    x.remit(3);
    x.back(0);
    due("the image has twelve", x.lend(0, 1, 1), FULL);
  }

  /** "Loans are numbered from 0, the oldest one first" */
  private static void numberedFrom0() {
    MeterPool x = withCredit(200, 200, 200);
    x.lend(2, 0, 30);
    x.lend(0, 1, 20);
    x.lend(1, 2, 10);
    row("the oldest", loanRow(x, 0), 2, 0, 30);
    row("the next", loanRow(x, 1), 0, 1, 20);
    row("the latest", loanRow(x, 2), 1, 2, 10);
    due("-1", x.loan(-1, 2), BAD);
    due("3", x.loan(3, 2), BAD);
    x.remit(0);
    row("the oldest then", loanRow(x, 0), 0, 1, 20);
    x.lend(2, 0, 40);
    row("a new one is the latest", loanRow(x, 2), 2, 0, 40);
  }

  /** "an amount that is still owed, above 0": 1 is */
  private static void aboveZero() {
    MeterPool x = withCredit(50, 0);
    x.lend(0, 1, 2);
    x.buy(1, 2);
    row("one is owed", loanRow(x, 0), 0, 1, 1);
    due("one unit pays nothing", x.buy(1, 1), 4);
    due("it is still there", x.count(1), 1);
    x.lend(1, 0, 2);
    due("netted by 1", x.net(), 1);
    row("one is owed the other way", loanRow(x, 0), 1, 0, 1);
  }

  /** "one that is paid wholly is gone": the others follow, in their order */
  private static void paidWhollyIsGone() {
    MeterPool x = withCredit(200, 200, 200);
    x.lend(0, 1, 5);
    x.lend(0, 2, 6);
    x.lend(2, 1, 7);
    x.lend(1, 0, 8);
    x.lend(2, 1, 9);
    // 12: the first and the third are paid.
    x.buy(1, 24);
    due("three are left", x.count(1), 3);
    row("0", loanRow(x, 0), 0, 2, 6);
    row("1", loanRow(x, 1), 1, 0, 8);
    row("2", loanRow(x, 2), 2, 1, 9);
    due("no 3", x.loan(3, 0), BAD);
    due("and none to be remitted", x.remit(3), BAD);
  }

  /** "loan: its number": the first one and the last one */
  private static void remitFirstAndLast() {
    MeterPool x = withCredit(200, 200);
    for (int i = 0; i < 5; i++) {
      x.lend(0, 1, 10 + i);
    }
    due("5", x.remit(5), BAD);
    due("-1", x.remit(-1), BAD);
    due("the last", x.remit(4), 14);
    due("it is gone", x.remit(4), BAD);
    due("the first", x.remit(0), 10);
    row("three are left", ints(x.loan(0, 2), x.loan(1, 2), x.loan(2, 2), x.loan(3, 2)), 11, 12, 13, BAD);
    due("the first then", x.remit(0), 11);
    due("the first then", x.remit(0), 12);
    due("the only one", x.remit(0), 13);
    due("none", x.remit(0), BAD);
  }

  /** The same when there are as many as there can be */
  private static void remitTheTwelfth() {
    MeterPool x = withCredit(200, 200);
    for (int i = 0; i < 12; i++) {
      x.lend(0, 1, 1 + i);
    }
    due("12", x.remit(12), BAD);
    due("the twelfth", x.remit(11), 12);
    due("eleven", x.count(1), 11);
    due("the first", x.remit(0), 1);
    for (int i = 0; i < 10; i++) {
      row("loan " + i, loanRow(x, i), 0, 1, 2 + i);
    }
    due("ten", x.count(1), 10);
  }

  /** "Remits a loan": what was lent stays where it is */
  private static void remitLeavesCredits() {
    MeterPool x = withCredit(200, 0);
    x.lend(0, 1, 50);
    x.buy(1, 20);
    due("still owed", x.remit(0), 40);
    row("credits", ofAll(x, 4), 160, 60);
    row("nothing is owed", ints(x.house(1, 9), x.house(0, 10)), 0, 0);
    row("accounts", ints(x.account(6), x.account(7)), 220, 0);
  }

  /** "as long as there are two loans in which the same two houses owe each other": none, and yet a change */
  private static void netWithoutAPair() {
    MeterPool x = new MeterPool();
    due("no loan", x.net(), 0);
    due("a state", x.count(5), 1);
    MeterPool y = withCredit(100, 100, 100);
    y.lend(0, 1, 10);
    due("one loan", y.net(), 0);
    y.lend(0, 1, 10);
    due("the same way round", y.net(), 0);
    y.lend(1, 2, 10);
    y.lend(2, 0, 10);
    due("a ring", y.net(), 0);
    due("all are there", y.count(1), 4);
    due("each is a change", y.count(5), 8);
  }

  /** "in which the same two houses owe each other": both of them */
  private static void sameTwoHouses() {
    MeterPool x = withCredit(100, 100, 100, 100);
    x.lend(0, 1, 10);
    x.lend(2, 0, 11);
    x.lend(1, 3, 12);
    x.lend(2, 1, 13);
    x.lend(3, 0, 14);
    due("no pair", x.net(), 0);
    x.lend(1, 0, 9);
    due("a pair", x.net(), 9);
    row("the first", loanRow(x, 0), 0, 1, 1);
    row("the others", ints(x.loan(1, 2), x.loan(2, 2), x.loan(3, 2), x.loan(4, 2), x.loan(5, 2)), 11, 12, 13, 14, BAD);
  }

  /** "is reduced by the lesser one of both amounts" */
  private static void lesserAmount() {
    MeterPool x = withCredit(100, 100);
    x.lend(0, 1, 10);
    x.lend(1, 0, 9);
    due("the second is less", x.net(), 9);
    row("the first stays", loanRow(x, 0), 0, 1, 1);
    x.lend(1, 0, 2);
    due("the first is less", x.net(), 1);
    row("the second stays", loanRow(x, 0), 1, 0, 1);
    due("one loan", x.count(1), 1);
  }

  /** "loans that are paid wholly are gone": both, if they are as great as each other */
  private static void equalAmounts() {
    MeterPool x = withCredit(200, 200);
    x.lend(0, 1, 200);
    x.lend(1, 0, 200);
    due("both", x.net(), 200);
    due("none is left", x.count(1), 0);
    row("credits", ofAll(x, 4), 200, 200);
    due("no more", x.net(), 0);
  }

  /** "the oldest such pair (the one with the lowest first loan": what is left tells it */
  private static void oldestPairFirst() {
    MeterPool x = withCredit(100, 100);
    x.lend(0, 1, 10);
    x.lend(0, 1, 20);
    x.lend(1, 0, 15);
    // 0 and 2 by 10, then 1 and 2 by 5.
    due("both", x.net(), 15);
    due("one is left", x.count(1), 1);
    row("of the later one", loanRow(x, 0), 0, 1, 15);
    MeterPool y = withCredit(100, 100);
    y.lend(0, 1, 10);
    y.lend(0, 1, 20);
    y.lend(1, 0, 4);
    due("the first alone", y.net(), 4);
    row("of the first", ints(y.loan(0, 2), y.loan(1, 2), y.loan(2, 2)), 6, 20, BAD);
  }

  /** "of these the lowest second one" */
  private static void lowestSecondOne() {
    MeterPool x = withCredit(100, 100);
    x.lend(0, 1, 10);
    x.lend(1, 0, 8);
    x.lend(1, 0, 7);
    // 0 and 1 by 8, then 0 and what was 2 by 2.
    due("both", x.net(), 10);
    due("one is left", x.count(1), 1);
    row("of the last", loanRow(x, 0), 1, 0, 5);
    MeterPool y = withCredit(100, 100);
    y.lend(0, 1, 10);
    y.lend(1, 0, 30);
    y.lend(1, 0, 7);
    due("the second alone", y.net(), 10);
    row("of the second", ints(y.loan(0, 2), y.loan(1, 2), y.loan(2, 2)), 20, 7, BAD);
  }

  /** "found anew each time": when one or both of a pair are gone, the others have other numbers */
  private static void foundAnew() {
    MeterPool x = withCredit(100, 100, 100, 100);
    x.lend(0, 1, 5);
    x.lend(2, 3, 7);
    x.lend(1, 0, 5);
    x.lend(3, 2, 7);
    due("pairs across each other", x.net(), 12);
    due("none is left", x.count(1), 0);
    MeterPool y = withCredit(100, 100, 100, 100);
    y.lend(0, 1, 5);
    y.lend(1, 0, 5);
    y.lend(0, 1, 6);
    y.lend(1, 0, 9);
    y.lend(2, 3, 1);
    y.lend(3, 2, 2);
    due("pairs behind each other", y.net(), 12);
    row("a part of the one", loanRow(y, 0), 1, 0, 3);
    row("a part of the other one", loanRow(y, 1), 3, 2, 1);
    due("two are left", y.count(1), 2);
    // 0 and 3 by 6, 1 and 3 by 4, 1 and 4 by 3, 2 and 4 by 2.
    MeterPool z = withCredit(100, 100);
    z.lend(0, 1, 6);
    z.lend(0, 1, 7);
    z.lend(0, 1, 8);
    z.lend(1, 0, 10);
    z.lend(1, 0, 5);
    due("three against two", z.net(), 15);
    due("one is left of them", z.count(1), 1);
    row("of the third", loanRow(z, 0), 0, 1, 6);
  }

  /** "at most 12 loans", all of them in pairs */
  private static void twelveNetted() {
    MeterPool x = withCredit(500, 500);
    for (int i = 0; i < 6; i++) {
      x.lend(0, 1, 10 + i);
    }
    for (int i = 0; i < 6; i++) {
      x.lend(1, 0, 11 + i);
    }
    // 75 against 81; the last one has 6 left of 16.
    due("all", x.net(), 75);
    due("one is left", x.count(1), 1);
    row("the last", loanRow(x, 0), 1, 0, 6);
    MeterPool y = withCredit(500, 500);
    for (int i = 0; i < 12; i++) {
      y.lend(i % 2, 1 - i % 2, 20);
    }
    due("six pairs", y.net(), 120);
    due("none is left", y.count(1), 0);
    due("taken back", y.undo(), 7);
    due("all are there", y.count(1), 12);
  }

  /** The same, none of them in a pair */
  private static void twelveWithoutAPair() {
    MeterPool x = withCredit(100, 100, 100);
    for (int i = 0; i < 12; i++) {
      x.lend(i % 3, (i + 1) % 3, 5);
    }
    due("no pair", x.net(), 0);
    due("all are there", x.count(1), 12);
    x.remit(0);
    x.remit(10);
    due("a pair", x.lend(1, 0, 3), 11);
    // 0 lent to 1 three times more: the first of these is number 2.
    due("the pair alone", x.net(), 3);
    row("the first of them", loanRow(x, 2), 0, 1, 2);
    due("the other one is gone", x.count(1), 10);
  }

  /** "one that is paid wholly is gone", and one that is remitted too: neither is netted any more */
  private static void goneLoansAreNotNetted() {
    MeterPool x = withCredit(100, 100);
    x.lend(0, 1, 5);
    x.lend(1, 0, 7);
    due("remitted", x.remit(1), 7);
    due("no pair", x.net(), 0);
    row("it stays", loanRow(x, 0), 0, 1, 5);
    x.lend(1, 0, 7);
    x.buy(0, 14);
    due("paid", x.count(1), 1);
    due("no pair again", x.net(), 0);
    x.lend(1, 0, 7);
    x.undo();
    due("no pair as it was taken back", x.net(), 0);
    row("owed", ints(x.house(0, 9), x.house(1, 9)), 0, 5);
  }

  /** "6 for all units of tokens, 7 for what was paid to the pool for debts": 0 at first, and neither loans nor credit */
  private static void accountsOfTokens() {
    MeterPool x = withCredit(0, 0);
    row("at first", ints(x.account(6), x.account(7)), 0, 0);
    x.setHouse(0, 2, 1000);
    row("a debt is not paid yet", ints(x.account(6), x.account(7)), 0, 0);
    x.buy(0, 1);
    row("one unit", ints(x.account(6), x.account(7)), 1, 0);
    x.buy(0, 500);
    row("500 more", ints(x.account(6), x.account(7)), 501, 200);
    x.lend(0, 1, 100);
    x.buy(1, 100);
    row("loans are no debts", ints(x.account(6), x.account(7)), 601, 200);
    x.setHouse(0, 2, 0);
    x.remit(0);
    row("a debt that is set is not paid", ints(x.account(6), x.account(7)), 601, 200);
  }
}
