/** One method for each promise of the document: ordinary inputs, the edges that it names, and wrong inputs. */
public final class PromisesTest extends PoolChecks {
  public static void main(String[] args) {
    promise1();
    promise2();
    promise3();
    promise4();
    promise5();
    promise6();
    promise7();
    promise8();
    promise9();
    promise10();
    promise11Drawing();
    promise11Shedding();
    promise11Serving();
    promise11Batteries();
    promise11Taking();
    promise11Reasons();
    promise12();
    promise13();
    promise14();
    promise15();
    promise16();
    promise17();
    promise18();
    promise19();
    promise20();
    promise21();
    promise22();
    promise23();
    promise24();
    promise25();
    promise26();
    promise27();
    promise28();
    promise29();
    promise30();
    promise31();
    changes();
    noChanges();
    fullVillage();
    check.end();
  }

  private static void promise1() {
    MeterPool x = new MeterPool();
    row("new counts", counts(x), 0, 0, 0, 1, 1, 0, 0, 0);
    row("new accounts", accounts(x), 0, 0, 0, 0, 0, 0, 0, 0);
    row("new settings", new int[] {x.setting(0), x.setting(1), x.setting(2), x.setting(3)}, 5, 40, 50, 50);
    row("new battery 0", batteryRow(x, 0), 0, 20, 90, 0, 0);
    row("new battery 1", batteryRow(x, 1), 0, 20, 90, 0, 0);
    for (int feeder = 0; feeder < 3; feeder++) {
      row("new feeder", feederRow(x, feeder), 0, 0, 0, 0, 0);
    }
    due("new supply", x.supply(0), 20);
    due("new text", x.clear(), 0);
    due("new image 0", x.back(0), STATE);
    due("new image 1", x.back(1), STATE);
    due("new history", x.undo(), STATE);
    check.dueDouble("new met", x.met(), 1.0);
    MeterPool y = new MeterPool();
    y.addHouse(0, 5);
    due("objects are apart", x.count(0), 0);
  }

  private static void promise2() {
    MeterPool x = new MeterPool();
    due("feeder -1", x.addHouse(-1, 5), BAD);
    due("feeder 3", x.addHouse(3, 5), BAD);
    due("feeder low", x.addHouse(LOW, 5), BAD);
    due("feeder high", x.addHouse(HIGH, 5), BAD);
    due("demand -1", x.addHouse(0, -1), BAD);
    due("demand 51", x.addHouse(0, 51), BAD);
    due("demand low", x.addHouse(0, LOW), BAD);
    due("none was added", x.count(0), 0);
    due("none was recorded", x.count(5), 0);
    due("first", x.addHouse(0, 0), 0);
    due("second", x.addHouse(2, 50), 1);
    row("first house", houseRow(x, 0), 0, 0, 0, 1, 0, 0, 0, 0, 0, 0, 0);
    row("second house", houseRow(x, 1), 2, 50, 0, 1, 0, 5, 0, 0, 0, 0, 0);
    for (int i = 2; i < 10; i++) {
      due("house " + i, x.addHouse(1, i), i);
    }
    due("eleventh", x.addHouse(1, 1), FULL);
    due("BAD before FULL", x.addHouse(3, 1), BAD);
    due("ten", x.count(0), 10);
    due("removed", x.removeHouse(4), 9);
    due("again", x.addHouse(1, 1), 9);
    // A house begins anew, whatever stood at its place.
    MeterPool y = rich(0, 10);
    y.setHouse(0, 2, 9);
    due("it got something", y.run(1), 10);
    y.setHouse(0, 3, 0);
    y.removeHouse(0);
    y.addHouse(1, 7);
    row("new at an old place", houseRow(y, 0), 1, 7, 0, 1, 0, 5, 0, 0, 0, 0, 0);
    y.run(1);
    due("it had a reason", y.house(0, 7), 2);
    y.removeHouse(0);
    y.addHouse(1, 7);
    row("new there again", houseRow(y, 0), 1, 7, 0, 1, 0, 5, 0, 0, 0, 0, 0);
  }

  private static void promise3() {
    MeterPool x = new MeterPool();
    due("no house", x.setHouse(0, 0, 0), BAD);
    x.addHouse(1, 7);
    x.addHouse(0, 3);
    due("feeder", x.setHouse(0, 0, 2), 1);
    due("feeder again", x.setHouse(0, 0, 0), 2);
    due("demand", x.setHouse(0, 1, 50), 7);
    due("demand 0", x.setHouse(0, 1, 0), 50);
    due("debt", x.setHouse(0, 2, 1000), 0);
    due("debt 0", x.setHouse(0, 2, 0), 1000);
    due("not connected", x.setHouse(0, 3, 0), 1);
    due("connected", x.setHouse(0, 3, 1), 0);
    due("the same value is a change too", x.setHouse(0, 3, 1), 1);
    row("as set", houseRow(x, 0), 0, 0, 0, 1, 0, 0, 0, 0, 0, 0, 0);
    row("the other one", houseRow(x, 1), 0, 3, 0, 1, 0, 3, 0, 0, 0, 0, 0);
    long before = x.digest();
    int[][] wrong = {{-1, 0, 0}, {2, 0, 0}, {HIGH, 0, 0}, {LOW, 0, 0}, {0, -1, 0}, {0, 4, 0}, {0, LOW, 0}, {0, HIGH, 0},
        {0, 0, -1}, {0, 0, 3}, {0, 1, -1}, {0, 1, 51}, {0, 2, -1}, {0, 2, 1001}, {0, 3, -1}, {0, 3, 2}, {0, 3, HIGH}};
    for (int[] a : wrong) {
      due("setHouse " + a[0] + " " + a[1] + " " + a[2], x.setHouse(a[0], a[1], a[2]), BAD);
    }
    due("nothing changed", x.digest(), before);
  }

  private static void promise4() {
    MeterPool x = rich(0, 1, 1, 2, 2, 3, 0, 4);
    x.lend(1, 3, 20);
    due("-1", x.removeHouse(-1), BAD);
    due("4", x.removeHouse(4), BAD);
    due("low", x.removeHouse(LOW), BAD);
    long before = x.digest();
    due("the lender", x.removeHouse(1), STATE);
    due("the borrower", x.removeHouse(3), STATE);
    due("nothing changed", x.digest(), before);
    due("the first", x.removeHouse(0), 3);
    row("feeders", ofAll(x, 0), 1, 2, 0);
    row("demands", ofAll(x, 1), 2, 3, 4);
    row("credits", ofAll(x, 4), 480, 500, 520);
    row("the loan follows", loanRow(x, 0), 0, 2, 20);
    due("the one between", x.removeHouse(1), 2);
    row("the loan follows again", loanRow(x, 0), 0, 1, 20);
    row("owed", ofAll(x, 9), 0, 20);
    row("owed to", ofAll(x, 10), 20, 0);
    x.remit(0);
    x.addHouse(0, 9);
    x.lend(1, 0, 5);
    due("one behind both", x.removeHouse(2), 2);
    row("the loan stays", loanRow(x, 0), 1, 0, 5);
    x.remit(0);
    due("free of loans", x.removeHouse(1), 1);
    due("the last", x.removeHouse(0), 0);
    due("none is left", x.removeHouse(0), BAD);
    // What the later ones got moves with them.
    MeterPool y = rich(0, 3, 0, 4);
    y.setHouse(1, 2, 77);
    y.setHouse(1, 3, 0);
    y.run(1);
    y.removeHouse(0);
    row("all that it has", houseRow(y, 0), 0, 4, 77, 0, 500, 0, 0, 1, 0, 0, 0);
    due("told of the accounts nothing", y.account(1), 3);
  }

  private static void promise5() {
    MeterPool x = new MeterPool();
    due("no house", x.buy(0, 5), BAD);
    x.addHouse(0, 5);
    x.addHouse(0, 5);
    x.addHouse(0, 5);
    due("units 0", x.buy(0, 0), BAD);
    due("units -1", x.buy(0, -1), BAD);
    due("units 501", x.buy(0, 501), BAD);
    due("units high", x.buy(0, HIGH), BAD);
    due("house -1", x.buy(-1, 5), BAD);
    due("house 3", x.buy(3, 5), BAD);
    due("no tokens yet", x.account(6), 0);
    due("500", x.buy(0, 500), 500);
    due("500 for the next", x.buy(1, 500), 500);
    due("1", x.buy(0, 1), 501);
    due("all tokens", x.account(6), 1001);
    // Two lenders, three loans: the oldest is paid wholly before the next one.
    x.lend(1, 2, 10);
    x.lend(0, 2, 30);
    x.lend(1, 2, 40);
    x.lend(2, 1, 5);
    x.setHouse(2, 2, 25);
    due("borrowed", x.house(2, 4), 75);
    // 39 * 40 / 100 = 15 for the debt; 24 * 50 / 100 = 12 for loans; 12 remain.
    due("buys 39", x.buy(2, 39), 87);
    due("debt", x.house(2, 2), 10);
    due("paid for debts", x.account(7), 15);
    due("two loans less 12", x.count(1), 3);
    row("the next one", loanRow(x, 0), 0, 2, 28);
    row("the one behind", loanRow(x, 1), 1, 2, 40);
    row("one the other way", loanRow(x, 2), 2, 1, 5);
    row("lenders got it", ofAll(x, 4), 473, 465, 87);
    // 100 * 40 / 100 = 40, but the debt is 10; 90 * 50 / 100 = 45: 28 and 17.
    due("buys 100", x.buy(2, 100), 132);
    due("no debt", x.house(2, 2), 0);
    due("paid in all", x.account(7), 25);
    row("what is left of it", loanRow(x, 0), 1, 2, 23);
    row("lenders got it again", ofAll(x, 4), 501, 482, 132);
    // 200 * 50 / 100 = 100, but 23 are owed.
    due("buys 200", x.buy(2, 200), 309);
    due("one loan is left", x.count(1), 1);
    row("it was not hers", loanRow(x, 0), 2, 1, 5);
    due("all tokens then", x.account(6), 1340);
    x.set(1, 100);
    x.set(2, 100);
    x.setHouse(1, 2, 50);
    // All goes to the debt, then what is left of a token to loans.
    due("all for the debt", x.buy(1, 50), 505);
    due("all for the loan", x.buy(1, 5), 505);
    due("loan is gone", x.count(1), 0);
    due("then all for itself", x.buy(1, 5), 510);
    x.setHouse(1, 2, 50);
    x.set(1, 0);
    due("nothing for the debt", x.buy(1, 10), 520);
    due("debt stays", x.house(1, 2), 50);
    // 500 * 40 / 100 = 200 for the debt; 300 * 50 / 100 = 150 for the loan, of which 1 is left.
    MeterPool y = rich(0, 5, 0, 5);
    y.lend(0, 1, 151);
    y.setHouse(1, 2, 1000);
    due("a great token", y.buy(1, 500), 801);
    due("of the debt", y.house(1, 2), 800);
    row("of the loan", loanRow(y, 0), 0, 1, 1);
    due("to the lender", y.house(0, 4), 499);
    // 67 * 3 / 100 and 65 * 3 / 100 are rounded down.
    y.set(1, 3);
    y.set(2, 3);
    due("rounded down", y.buy(1, 67), 865);
    due("the loan is gone", y.count(1), 0);
  }

  private static void promise6() {
    MeterPool x = rich(0, 5, 0, 5);
    due("lends", x.lend(0, 1, 200), 1);
    row("it goes over", ofAll(x, 4), 300, 700);
    row("the loan", loanRow(x, 0), 0, 1, 200);
    due("lends 1", x.lend(1, 0, 1), 2);
    row("behind", loanRow(x, 1), 1, 0, 1);
    long before = x.digest();
    int[][] wrong = {{0, 0, 5}, {1, 1, 5}, {-1, 1, 5}, {2, 1, 5}, {0, -1, 5}, {0, 2, 5}, {0, 1, 0}, {0, 1, 201},
        {0, 1, -1}, {LOW, 1, 5}, {0, HIGH, 5}, {0, 1, HIGH}};
    for (int[] a : wrong) {
      due("lend " + a[0] + " " + a[1] + " " + a[2], x.lend(a[0], a[1], a[2]), BAD);
    }
    due("nothing changed", x.digest(), before);
    MeterPool y = new MeterPool();
    y.addHouse(0, 5);
    y.addHouse(0, 5);
    due("without credit", y.lend(0, 1, 1), STATE);
    y.buy(0, 12);
    due("one too many", y.lend(0, 1, 13), STATE);
    due("BAD before STATE", y.lend(0, 1, 201), BAD);
    due("all that it has", y.lend(0, 1, 12), 1);
    y.buy(0, 11);
    for (int i = 2; i <= 12; i++) {
      due("loan " + i, y.lend(0, 1, 1), i);
    }
    due("STATE before FULL", y.lend(0, 1, 1), STATE);
    due("thirteenth", y.lend(1, 0, 1), FULL);
    due("BAD before FULL", y.lend(1, 1, 1), BAD);
    y.remit(5);
    due("again", y.lend(1, 0, 1), 12);
  }

  private static void promise7() {
    MeterPool x = rich(0, 5, 0, 5);
    due("no loan", x.remit(0), BAD);
    x.lend(0, 1, 10);
    x.lend(1, 0, 20);
    x.lend(0, 1, 30);
    due("-1", x.remit(-1), BAD);
    due("3", x.remit(3), BAD);
    due("low", x.remit(LOW), BAD);
    due("the middle one", x.remit(1), 20);
    row("the first stays", loanRow(x, 0), 0, 1, 10);
    row("the next one moves up", loanRow(x, 1), 0, 1, 30);
    row("credits stay", ofAll(x, 4), 480, 520);
    due("the last", x.remit(1), 30);
    due("the first", x.remit(0), 10);
    due("none is left", x.count(1), 0);
    due("BAD again", x.remit(0), BAD);
  }

  private static void promise8() {
    MeterPool x = rich(0, 5, 0, 5, 0, 5);
    due("without loans", x.net(), 0);
    due("is a change all the same", x.count(5), 7);
    x.lend(0, 1, 10);
    x.lend(1, 2, 20);
    x.lend(2, 0, 30);
    due("a ring is no pair", x.net(), 0);
    due("three loans", x.count(1), 3);
    x.lend(0, 1, 5);
    due("the same way round is no pair", x.net(), 0);
    x.lend(1, 0, 12);
    // 0 with 4 by 10, then 3 with what is left of 4 by 2.
    due("two pairs", x.net(), 12);
    due("three are left", x.count(1), 3);
    row("first", loanRow(x, 0), 1, 2, 20);
    row("second", loanRow(x, 1), 2, 0, 30);
    row("third", loanRow(x, 2), 0, 1, 3);
    row("credits stay", ofAll(x, 4), 527, 483, 490);
    // Both of a pair may be gone at once; the lowest second one comes first.
    MeterPool y = rich(0, 5, 0, 5);
    y.lend(0, 1, 50);
    y.lend(1, 0, 50);
    y.lend(1, 0, 9);
    due("one of the two", y.net(), 50);
    due("one is left", y.count(1), 1);
    row("the later one", loanRow(y, 0), 1, 0, 9);
    MeterPool z = rich(0, 5, 0, 5);
    z.lend(0, 1, 50);
    z.lend(1, 0, 20);
    z.lend(1, 0, 20);
    z.lend(1, 0, 20);
    due("one against three", z.net(), 50);
    due("the last of them", z.count(1), 1);
    row("what is left", loanRow(z, 0), 1, 0, 10);
    z.undo();
    due("undone", z.count(1), 4);
  }

  private static void promise9() {
    MeterPool x = new MeterPool();
    due("overdraft", x.set(0, 50), 5);
    due("overdraft 0", x.set(0, 0), 50);
    due("debt share", x.set(1, 100), 40);
    due("loan share", x.set(2, 0), 50);
    due("least part", x.set(3, 100), 50);
    due("all told", x.setting(0), 0);
    due("all told 1", x.setting(1), 100);
    due("all told 2", x.setting(2), 0);
    due("all told 3", x.setting(3), 100);
    long before = x.digest();
    int[][] wrong = {{-1, 5}, {4, 5}, {LOW, 5}, {HIGH, 5}, {0, -1}, {0, 51}, {1, -1}, {1, 101}, {2, -1}, {2, 101},
        {3, -1}, {3, 101}, {3, HIGH}, {3, LOW}};
    for (int[] a : wrong) {
      due("set " + a[0] + " " + a[1], x.set(a[0], a[1]), BAD);
    }
    due("nothing changed", x.digest(), before);
  }

  private static void promise10() {
    MeterPool x = new MeterPool();
    due("capacity", x.setBattery(0, 0, 500), 0);
    due("rate", x.setBattery(0, 1, 100), 20);
    due("efficiency", x.setBattery(0, 2, 50), 90);
    due("of the other one", x.setBattery(1, 2, 100), 90);
    row("battery 0", batteryRow(x, 0), 500, 100, 50, 0, 0);
    row("battery 1", batteryRow(x, 1), 0, 20, 100, 0, 0);
    long before = x.digest();
    int[][] wrong = {{-1, 0, 5}, {2, 0, 5}, {HIGH, 0, 5}, {0, -1, 5}, {0, 3, 5}, {0, LOW, 5}, {0, 0, -1}, {0, 0, 501},
        {0, 1, -1}, {0, 1, 101}, {0, 2, 49}, {0, 2, 101}, {0, 2, -1}};
    for (int[] a : wrong) {
      due("setBattery " + a[0] + " " + a[1] + " " + a[2], x.setBattery(a[0], a[1], a[2]), BAD);
    }
    due("nothing changed", x.digest(), before);
    // 20 of the supply charge 10; battery 1 takes none of it.
    x.run(1);
    due("charged", x.battery(0, 3), 10);
    due("no less than its charge", x.setBattery(0, 0, 10), 500);
    due("nothing was discarded", x.account(4), 0);
    due("less", x.setBattery(0, 0, 7), 10);
    due("the charge is less", x.battery(0, 3), 7);
    due("discarded", x.account(4), 3);
    due("none at all", x.setBattery(0, 0, 0), 7);
    due("discarded all", x.account(4), 10);
    due("no charge", x.account(5), 0);
    due("undone", x.undo(), 7);
    due("discarded before", x.account(4), 3);
  }

  private static void promise11Drawing() {
    MeterPool x = new MeterPool();
    due("0 hours", x.run(0), BAD);
    due("101 hours", x.run(101), BAD);
    due("-1 hours", x.run(-1), BAD);
    due("low hours", x.run(LOW), BAD);
    due("an empty village", x.run(100), 0);
    due("the hour", x.count(2), 100);
    // Each battery without a capacity takes 1 unit an hour and loses it: 1 * 90 / 100 is 0.
    row("accounts", accounts(x), 2000, 0, 200, 1800, 0, 0, 0, 0);
    due("one change", x.undo(), 0);
    due("the hour before", x.count(2), 0);
    x.addHouse(0, 10);
    due("the overdraft alone", x.run(1), 5);
    due("the credit", x.house(0, 4), -5);
    due("no more", x.run(1), 0);
    x.set(0, 4);
    due("not less than 0", x.house(0, 5), 0);
    due("not less than 0 in an hour", x.run(1), 0);
    x.buy(0, 4);
    due("up to the overdraft", x.house(0, 5), 3);
    due("drawn", x.run(2), 3);
    x.buy(0, 100);
    due("the demand", x.run(1), 10);
    x.setHouse(0, 3, 0);
    due("not connected", x.run(3), 0);
    due("the hour then", x.count(2), 9);
  }

  private static void promise11Shedding() {
    MeterPool x = rich(0, 10, 1, 12, 2, 8);
    due("feeder 1 is shed", x.run(1), 18);
    row("got", ofAll(x, 6), 10, 0, 8);
    row("feeder 1", feederRow(x, 1), 1, 12, 500, 1, 1);
    row("feeder 2", feederRow(x, 2), 1, 8, 492, 0, 0);
    due("the turn", x.count(4), 2);
    // 30 are wanted: without feeder 2 there are still 22, without feeder 1 then 10.
    due("both are shed", x.run(1), 10);
    row("got then", ofAll(x, 6), 10, 0, 0);
    row("feeder 1 then", feederRow(x, 1), 1, 12, 500, 2, 1);
    row("feeder 2 then", feederRow(x, 2), 1, 8, 492, 1, 1);
    due("the turn went twice", x.count(4), 2);
    x.setHouse(1, 1, 2);
    due("just enough", x.run(1), 20);
    due("none is shed", x.feeder(1, 4) + x.feeder(2, 4), 0);
    due("the turn stays", x.count(4), 2);
    // Feeder 2 wants 9 now: 21 are too many, and without feeder 2 there are enough.
    x.setHouse(2, 1, 9);
    due("feeder 2 is shed", x.run(1), 12);
    row("feeder 2 counts", feederRow(x, 2), 1, 9, 484, 2, 1);
    row("feeder 1 counts", feederRow(x, 1), 1, 2, 496, 2, 0);
    due("the turn goes on", x.count(4), 1);
    // The feeder whose turn it is wants nothing: it is not shed, and the turn goes on.
    x.setHouse(1, 3, 0);
    x.setHouse(2, 1, 11);
    due("the other one instead", x.run(1), 10);
    row("feeder 1 was not", feederRow(x, 1), 1, 0, 496, 2, 0);
    row("feeder 2 was", feederRow(x, 2), 1, 11, 484, 3, 1);
    due("the turn came round", x.count(4), 1);
    MeterPool z = rich(0, 20, 1, 1);
    due("a single unit is shed", z.run(1), 20);
    row("feeder 1 for 1", feederRow(z, 1), 1, 1, 500, 1, 1);
    due("one turn", z.count(4), 2);
    MeterPool y = rich(0, 30);
    due("none can be shed", y.run(1), 20);
    due("not counted", y.feeder(0, 3) + y.feeder(1, 3) + y.feeder(2, 3), 0);
    due("the turn came round too", y.count(4), 1);
  }

  private static void promise11Serving() {
    // Feeders first, then numbers.
    MeterPool x = rich(2, 4, 0, 14, 1, 4, 0, 10);
    x.set(3, 0);
    due("all is used", x.run(1), 20);
    row("by feeders", ofAll(x, 6), 0, 14, 0, 6);
    // A house that gets nothing leaves what is left to those behind it.
    MeterPool y = rich(0, 15, 0, 10, 0, 5);
    due("half is enough", y.run(1), 20);
    row("half", ofAll(y, 6), 15, 5, 0);
    y.set(3, 51);
    due("half is too little", y.run(1), 20);
    row("passed over", ofAll(y, 6), 15, 0, 5);
    y.set(3, 100);
    y.setHouse(2, 1, 4);
    due("the rest is not used", y.run(1), 19);
    y.set(3, 0);
    y.setHouse(0, 1, 20);
    due("nothing is left", y.run(1), 20);
    row("the first alone", ofAll(y, 6), 20, 0, 0);
    row("credits", ofAll(y, 4), 435, 495, 491);
    row("got in all", ofAll(y, 8), 65, 5, 9);
    // 49 * 41 / 100 is 20.09: 20 are too little.
    MeterPool w = rich(0, 49);
    w.set(3, 41);
    due("20 of 49", w.run(1), 0);
    w.set(3, 40);
    due("20 of 49 again", w.run(1), 20);
    // 19 of 38 is half, 19 of 39 is not.
    MeterPool z = rich(0, 38);
    supply(z, "19");
    due("19 of 38", z.run(1), 19);
    z.setHouse(0, 1, 39);
    due("19 of 39", z.run(1), 0);
  }

  private static void promise11Batteries() {
    MeterPool x = rich(0, 10);
    supply(x, "30,5*2,0*9");
    x.setBattery(0, 0, 50);
    due("charges", x.run(1), 10);
    row("18 of 20", batteryRow(x, 0), 50, 20, 90, 18, 18);
    row("accounts", accounts(x), 30, 10, 2, 0, 0, 18, 500, 0);
    due("gives", x.run(3), 28);
    row("all of it", batteryRow(x, 0), 50, 20, 90, 0, 0);
    row("accounts then", accounts(x), 40, 38, 2, 0, 0, 0, 500, 0);
    // Battery 0 is charged first and gives first; neither goes beyond its rate.
    MeterPool y = rich(0, 20);
    supply(y, "100,0*40");
    for (int battery = 0; battery < 2; battery++) {
      y.setBattery(battery, 0, 500);
      y.setBattery(battery, 2, 100);
    }
    y.setBattery(0, 1, 70);
    y.setHouse(0, 3, 0);
    due("charges both", y.run(1), 0);
    row("charges", new int[] {y.battery(0, 3), y.battery(1, 3), y.account(3)}, 70, 20, 10);
    y.setBattery(0, 1, 12);
    y.setHouse(0, 3, 1);
    due("both give", y.run(1), 20);
    row("12 and 8", new int[] {y.battery(0, 3), y.battery(1, 3)}, 58, 12);
    due("both give again", y.run(1), 20);
    row("12 and 8 again", new int[] {y.battery(0, 3), y.battery(1, 3), y.battery(1, 4)}, 46, 4, 4);
    due("no more than they can", y.run(1), 16);
    row("12 and 4", new int[] {y.battery(0, 3), y.battery(1, 3)}, 34, 0);
    row("accounts of it", accounts(y), 100, 56, 0, 10, 0, 34, 500, 0);
    // The greatest x: with room for 1 at 50 percent these are 3, of which 2 are lost.
    MeterPool z = new MeterPool();
    z.setBattery(0, 0, 10);
    z.setBattery(0, 1, 9);
    z.setBattery(0, 2, 100);
    z.setBattery(1, 1, 0);
    z.run(1);
    row("9 of 10", accounts(z), 20, 0, 0, 11, 0, 9, 0, 0);
    z.setBattery(0, 2, 50);
    z.run(1);
    row("3 for 1", accounts(z), 40, 0, 2, 28, 0, 10, 0, 0);
    z.run(1);
    row("1 for nothing", accounts(z), 60, 0, 3, 47, 0, 10, 0, 0);
    z.setBattery(0, 2, 100);
    z.run(1);
    row("none", accounts(z), 80, 0, 3, 67, 0, 10, 0, 0);
  }

  private static void promise11Taking() {
    // 100 * 100 / 100 fit into 100, and at 99 percent a full battery still takes 1.
    MeterPool x = new MeterPool();
    supply(x, "150");
    x.setBattery(0, 0, 100);
    x.setBattery(0, 1, 100);
    x.setBattery(0, 2, 100);
    x.setBattery(1, 2, 99);
    x.run(1);
    row("all into the one", accounts(x), 150, 0, 1, 49, 0, 100, 0, 0);
    x.setBattery(0, 2, 99);
    x.run(1);
    row("both are full", accounts(x), 300, 0, 3, 197, 0, 100, 0, 0);
    // 90 percent into 35: 39 * 90 / 100 is 35, 40 are 36.
    MeterPool y = new MeterPool();
    supply(y, "80");
    y.setBattery(0, 0, 35);
    y.setBattery(0, 1, 100);
    y.setBattery(1, 0, 500);
    y.setBattery(1, 1, 30);
    y.run(1);
    row("39 and 30", accounts(y), 80, 0, 4 + 3, 11, 0, 35 + 27, 0, 0);
    // What is left may be less than either would take.
    supply(y, "7");
    y.setBattery(0, 0, 500);
    y.run(1);
    row("7 for 6", accounts(y), 87, 0, 8, 11, 0, 68, 0, 0);
    due("in battery 0", y.battery(0, 3), 41);
  }

  private static void promise11Reasons() {
    MeterPool x = new MeterPool();
    x.addHouse(0, 10);
    x.addHouse(0, 0);
    x.addHouse(0, 3);
    x.addHouse(1, 9);
    x.addHouse(1, 5);
    x.addHouse(0, 30);
    x.buy(0, 100);
    x.buy(4, 100);
    x.buy(5, 100);
    x.setHouse(1, 3, 0);
    x.setHouse(2, 3, 0);
    // Wanted are 10, 0, 0, 5, 5, 30: feeder 1 is shed, 30 are too many for the 10 that are left.
    due("used", x.run(1), 10);
    row("got", ofAll(x, 6), 10, 0, 0, 0, 0, 0);
    row("reasons", ofAll(x, 7), 0, 0, 1, 2, 3, 4);
    x.setHouse(0, 1, 50);
    x.setHouse(2, 3, 1);
    x.setHouse(4, 0, 0);
    row("stay as they were", ofAll(x, 7), 0, 0, 1, 2, 3, 4);
    row("got stays too", ofAll(x, 6), 10, 0, 0, 0, 0, 0);
    // A house gets all that it can draw, which is less than its demand; it is not connected before that counts.
    MeterPool y = new MeterPool();
    y.addHouse(2, 6);
    y.run(1);
    row("the overdraft is short", houseRow(y, 0), 2, 6, 0, 1, -5, 0, 5, 2, 5, 0, 0);
    y.setHouse(0, 3, 0);
    y.run(1);
    due("not connected first", y.house(0, 7), 1);
    y.setHouse(0, 1, 0);
    y.run(1);
    due("no demand", y.house(0, 7), 0);
    // A part because of energy: 4, and the whole demand in the hour after it: 0.
    MeterPool z = rich(0, 30);
    supply(z, "20,40");
    z.run(1);
    due("a part", z.house(0, 7), 4);
    z.run(1);
    due("the whole", z.house(0, 7), 0);
  }

  private static void promise12() {
    MeterPool x = new MeterPool();
    due("32", x.type(32), BAD);
    due("127", x.type(127), BAD);
    due("-1", x.type(-1), BAD);
    due("0", x.type(0), BAD);
    due("low", x.type(LOW), BAD);
    due("high", x.type(HIGH), BAD);
    due("33", x.type(33), 1);
    due("126", x.type(126), 2);
    for (int i = 3; i <= 60; i++) {
      due("character " + i, x.type('a'), i);
    }
    due("61st", x.type('a'), FULL);
    due("BAD before FULL", x.type(127), BAD);
    due("is no change", x.count(5), 0);
    due("60", x.clear(), 60);
    due("again", x.type('a'), 1);
  }

  private static void promise13() {
    MeterPool x = new MeterPool();
    due("empty", x.clear(), 0);
    typeAll(x, "12,4");
    due("four", x.clear(), 4);
    due("empty then", x.clear(), 0);
    due("no list", x.fault(), 0);
    due("is no change", x.count(5), 0);
  }

  private static void fault(String text, int want) {
    MeterPool x = new MeterPool();
    typeAll(x, text);
    due("fault of " + text, x.fault(), want);
    due("fault again of " + text, x.fault(), want);
    due("text stays", x.clear(), text.length());
  }

  private static void promise14() {
    String[] whole = {"0", "5", "500", "499", "10", "5*2", "5*9", "5*10", "5*19", "5*48", "0*2,0", "5*47,3", "5*46,3*2",
        "5*38,3*10", "5*39,3*9", "5*28,3*3", "1,2,3,4", "5*24,6*24"};
    for (String text : whole) {
      fault(text, NONE);
    }
    // Not whole, but a list may begin so: the length.
    String[] begun = {"", "5,", "5*", "5*1", "5*2,", "5*47,", "5*46,3*", "5*46,3,", "5*38,3*1", "500*"};
    for (String text : begun) {
      fault(text, text.length());
    }
    // The last character is the first one with which no list begins.
    String[] broken = {",", "*", "a", "/", ":", "-", "5-", "5a", "00", "01", "501", "510", "600", "5000", "1000", "5,,",
        "5,*", "5,01", "5**", "5*,", "5*a", "5*0", "5*49", "5*50", "5*60", "5*1,", "5*1*",
        "5*1a", "5*100", "5*2*", "5*2a", "5*222", "5*48,", "5*47,3,", "5*47,3*", "5*46,3*2,",
        "5*46,3*3", "5*46,3*1", "5*45,3*4", "5*39,3*1", "5*38,3*11", "5*37,3*12", "5*28,3*21"};
    for (String text : broken) {
      fault(text, text.length() - 1);
    }
    fault("5a,,", 1);
    fault("5,05,a", 3);
    fault("5*49,5", 3);
    fault("5*48,5", 4);
    StringBuilder commas = new StringBuilder();
    for (int i = 0; i < 30; i++) {
      commas.append("1,");
    }
    fault(commas.toString(), 60);
    commas.setCharAt(59, '7');
    fault(commas.toString(), NONE);
    MeterPool x = new MeterPool();
    due("is no change", x.fault() + x.count(5), 0);
  }

  private static void promise15() {
    MeterPool x = new MeterPool();
    due("empty text", x.load(), STATE);
    typeAll(x, "5,");
    due("not whole", x.load(), STATE);
    due("the text stays", x.type('5'), 3);
    due("then whole", x.load(), 2);
    due("the text is empty", x.clear(), 0);
    due("one change", x.count(5), 1);
    row("the list", new int[] {x.count(3), x.supply(0), x.supply(1), x.supply(2)}, 2, 5, 5, 5);
    typeAll(x, "1*3,400,0,77*2");
    due("seven", x.load(), 7);
    row("its numbers", new int[] {x.supply(0), x.supply(1), x.supply(2), x.supply(3), x.supply(4), x.supply(5),
        x.supply(6), x.supply(7)}, 1, 1, 1, 400, 0, 77, 77, 1);
    x.run(3);
    due("runs with it", x.run(1) + x.account(0), 403);
    typeAll(x, "9a");
    due("a fault", x.load(), STATE);
    due("the list stays", x.count(3), 7);
    x.clear();
    typeAll(x, "500*48");
    due("48", x.load(), 48);
    due("the last", x.supply(47), 500);
    x.undo();
    due("undone", x.count(3), 7);
    due("the text is not", x.clear(), 0);
  }

  private static void promise16() {
    MeterPool x = new MeterPool();
    due("none", x.undo(), STATE);
    for (int i = 0; i < 9; i++) {
      x.addHouse(0, i);
      due("recorded", x.count(5), Math.min(8, i + 1));
    }
    for (int left = 7; left >= 0; left--) {
      due("undone", x.undo(), left);
      due("houses", x.count(0), left + 1);
    }
    due("the oldest was dropped", x.undo(), STATE);
    due("one house is left", x.count(0), 1);
    // All of the state comes back.
    MeterPool y = rich(1, 10);
    y.addHouse(2, 15);
    long before = y.digest();
    int states = y.count(5);
    y.run(5);
    check.holds("a run changes the digest", y.digest() != before);
    due("the run", y.undo(), states);
    due("before the run", y.digest(), before);
    y.lend(0, 1, 50);
    undone("lend", y, before);
    y.buy(1, 50);
    undone("buy", y, before);
    for (int setting = 0; setting < 4; setting++) {
      y.set(setting, 9);
      undone("set " + setting, y, before);
    }
    for (int what = 0; what < 3; what++) {
      y.setBattery(1, what, 70);
      undone("setBattery " + what, y, before);
    }
    int[] values = {2, 7, 70, 0};
    for (int what = 0; what < 4; what++) {
      y.setHouse(0, what, values[what]);
      undone("setHouse " + what, y, before);
    }
    y.removeHouse(0);
    undone("removeHouse", y, before);
    y.addHouse(0, 4);
    undone("addHouse", y, before);
    typeAll(y, "7,9*3");
    y.load();
    undone("load", y, before);
    // Loans, hours and what was shed come back as well.
    y.lend(0, 1, 50);
    y.lend(1, 0, 20);
    y.run(1);
    due("feeder 1 was shed", y.feeder(1, 4), 1);
    before = y.digest();
    y.net();
    undone("net", y, before);
    y.remit(0);
    undone("remit", y, before);
    y.buy(1, 90);
    undone("buy with a loan", y, before);
    y.run(1);
    due("feeder 1 was not shed", y.feeder(1, 4), 0);
    undone("run", y, before);
    // Neither the text nor the images come back.
    y.run(1);
    y.keep(1);
    y.type('4');
    y.undo();
    due("images stay", y.count(6), 2);
    due("the text stays", y.clear(), 1);
    due("the image is what it was", y.back(1), 2);
  }

  private static void undone(String call, MeterPool x, long before) {
    check.holds(call + " changes the digest", x.digest() != before);
    x.undo();
    due("before " + call, x.digest(), before);
  }

  private static void promise17() {
    MeterPool x = new MeterPool();
    due("-1", x.keep(-1), BAD);
    due("2", x.keep(2), BAD);
    due("high", x.keep(HIGH), BAD);
    due("none is kept", x.count(6), 0);
    due("hour 0", x.keep(1), 0);
    due("image 1", x.count(6), 2);
    x.run(7);
    due("hour 7", x.keep(0), 7);
    due("both", x.count(6), 3);
    due("no change", x.count(5), 1);
    x.run(1);
    due("in place of what it kept", x.keep(0), 8);
    x.run(1);
    due("back there", x.back(0), 8);
    due("the other one", x.back(1), 0);
  }

  private static void promise18() {
    MeterPool x = rich(0, 10);
    due("-1", x.back(-1), BAD);
    due("2", x.back(2), BAD);
    due("keeps nothing", x.back(0), STATE);
    x.run(3);
    x.keep(0);
    due("the other one keeps nothing", x.back(1), STATE);
    row("as kept", houseRow(x, 0), 0, 10, 0, 1, 470, 10, 10, 0, 30, 0, 0);
    x.run(4);
    x.setHouse(0, 1, 3);
    x.addHouse(1, 1);
    int states = x.count(5);
    due("the hour then", x.back(0), 3);
    due("a change", x.count(5), states + 1);
    row("as it was kept", houseRow(x, 0), 0, 10, 0, 1, 470, 10, 10, 0, 30, 0, 0);
    due("one house", x.count(0), 1);
    x.run(2);
    due("the image stays", x.back(0), 3);
    due("and stays told", x.count(6), 1);
    x.type('7');
    due("undone", x.undo(), 7);
    due("the hour before", x.count(2), 5);
    x.undo();
    x.undo();
    row("before the first return", new int[] {x.count(0), x.count(2)}, 2, 7);
    due("the text stays", x.clear(), 1);
  }

  private static void promise19() {
    MeterPool x = rich(1, 10, 2, 20);
    x.setHouse(0, 2, 300);
    x.lend(0, 1, 30);
    x.lend(1, 0, 9);
    x.lend(0, 1, 4);
    row("before an hour", houseRow(x, 0), 1, 10, 300, 1, 475, 10, 0, 0, 0, 9, 34);
    // 30 of 20 are wanted: feeder 1 alone is shed, and feeder 2 alone in the next hour.
    x.run(1);
    row("shed", houseRow(x, 0), 1, 10, 300, 1, 475, 10, 0, 3, 0, 9, 34);
    row("served", houseRow(x, 1), 2, 20, 0, 1, 505, 20, 20, 0, 20, 34, 9);
    x.run(1);
    row("served in turn", houseRow(x, 0), 1, 10, 300, 1, 465, 10, 10, 0, 10, 9, 34);
    row("shed in turn", houseRow(x, 1), 2, 20, 0, 1, 505, 20, 0, 3, 20, 34, 9);
    int[][] wrong = {{-1, 0}, {2, 0}, {LOW, 0}, {HIGH, 0}, {0, -1}, {0, 11}, {0, LOW}, {0, HIGH}};
    for (int[] a : wrong) {
      due("house " + a[0] + " " + a[1], x.house(a[0], a[1]), BAD);
    }
    x.addHouse(0, 5);
    due("new since", x.house(2, 6) + x.house(2, 7), 0);
  }

  private static void promise20() {
    MeterPool x = rich(0, 5, 0, 5, 0, 5);
    due("no loan", x.loan(0, 0), BAD);
    x.lend(2, 1, 8);
    x.lend(0, 2, 9);
    row("first", loanRow(x, 0), 2, 1, 8);
    row("second", loanRow(x, 1), 0, 2, 9);
    int[][] wrong = {{-1, 0}, {2, 0}, {LOW, 0}, {HIGH, 0}, {0, -1}, {0, 3}, {0, HIGH}};
    for (int[] a : wrong) {
      due("loan " + a[0] + " " + a[1], x.loan(a[0], a[1]), BAD);
    }
  }

  private static void promise21() {
    MeterPool x = new MeterPool();
    supply(x, "60");
    x.setBattery(1, 0, 300);
    x.setBattery(1, 1, 30);
    x.setBattery(1, 2, 80);
    x.setBattery(0, 1, 0);
    x.run(1);
    row("by its charge", batteryRow(x, 1), 300, 30, 80, 24, 24);
    x.run(1);
    row("by its rate", batteryRow(x, 1), 300, 30, 80, 48, 30);
    row("the other one", batteryRow(x, 0), 0, 0, 90, 0, 0);
    int[][] wrong = {{-1, 0}, {2, 0}, {LOW, 0}, {HIGH, 0}, {0, -1}, {0, 5}, {1, HIGH}};
    for (int[] a : wrong) {
      due("battery " + a[0] + " " + a[1], x.battery(a[0], a[1]), BAD);
    }
  }

  private static void promise22() {
    MeterPool x = new MeterPool();
    x.addHouse(1, 10);
    x.addHouse(1, 4);
    x.addHouse(2, 30);
    x.buy(0, 50);
    x.buy(2, 60);
    row("feeder 0", feederRow(x, 0), 0, 0, 0, 0, 0);
    row("feeder 1", feederRow(x, 1), 2, 14, 50, 0, 0);
    row("feeder 2", feederRow(x, 2), 1, 30, 60, 0, 0);
    // 44 of 20: feeder 1 is shed, 30 are still too many, so feeder 2 is shed too.
    x.run(1);
    row("feeder 1 shed", feederRow(x, 1), 2, 14, 50, 1, 1);
    row("feeder 2 shed", feederRow(x, 2), 1, 30, 60, 1, 1);
    x.setHouse(0, 0, 0);
    x.setHouse(2, 3, 0);
    row("feeder 0 then", feederRow(x, 0), 1, 10, 50, 0, 0);
    row("whatever has changed", feederRow(x, 1), 1, 4, 0, 1, 1);
    row("not connected", feederRow(x, 2), 1, 0, 60, 1, 1);
    x.run(1);
    row("not shed", feederRow(x, 1), 1, 1, -4, 1, 0);
    int[][] wrong = {{-1, 0}, {3, 0}, {LOW, 0}, {HIGH, 0}, {0, -1}, {0, 5}, {2, HIGH}};
    for (int[] a : wrong) {
      due("feeder " + a[0] + " " + a[1], x.feeder(a[0], a[1]), BAD);
    }
  }

  private static void promise23() {
    MeterPool x = rich(0, 10);
    x.setHouse(0, 2, 100);
    x.buy(0, 50);
    supply(x, "31,0");
    x.setBattery(0, 0, 12);
    x.setBattery(0, 2, 60);
    // 21 are left: battery 0 takes 20 for 12, battery 1 takes 1 for nothing.
    x.run(1);
    row("charging", accounts(x), 31, 10, 9, 0, 0, 12, 550, 20);
    x.run(2);
    // The second hour takes 10 of the charge; in the third one room 10 has a place for 18, and 1 is for nothing.
    row("giving and charging", accounts(x), 62, 30, 9 + 8 + 1, 2, 0, 12, 550, 20);
    x.setBattery(0, 0, 5);
    row("discarding", accounts(x), 62, 30, 18, 2, 7, 5, 550, 20);
    x.setBattery(1, 0, 10);
    x.setBattery(1, 1, 10);
    x.setBattery(0, 1, 0);
    x.run(2);
    row("the charge of both", accounts(x), 93, 40, 19, 13, 7, 14, 550, 20);
    due("-1", x.account(-1), BAD);
    due("8", x.account(8), BAD);
    due("low", x.account(LOW), BAD);
    due("high", x.account(HIGH), BAD);
  }

  private static void promise24() {
    MeterPool x = new MeterPool();
    due("0", x.supply(0), 20);
    due("far", x.supply(HIGH), 20);
    due("-1", x.supply(-1), BAD);
    due("low", x.supply(LOW), BAD);
    supply(x, "1,2,3");
    due("first", x.supply(0), 1);
    due("third", x.supply(2), 3);
    due("fourth", x.supply(3), 1);
    due("far, 2147483647 modulo 3 is 1", x.supply(HIGH), 2);
    x.run(2);
    due("from the hour 0 on", x.supply(0), 1);
  }

  private static void promise25() {
    MeterPool x = new MeterPool();
    x.addHouse(0, 9);
    x.addHouse(1, 9);
    x.addHouse(2, 9);
    x.buy(0, 50);
    x.run(1);
    x.lend(0, 1, 10);
    x.keep(1);
    supply(x, "7*5");
    row("counts", counts(x), 3, 1, 1, 5, 1, 7, 2, 1);
    x.buy(2, 5);
    due("no credit is not negative", x.house(2, 4) + x.count(7), 0);
    x.undo();
    due("-1", x.count(-1), BAD);
    due("8", x.count(8), BAD);
    due("low", x.count(LOW), BAD);
    due("high", x.count(HIGH), BAD);
    // 18 of 7 are wanted: feeder 1 is shed, 9 are still too many, and feeder 2 wants nothing.
    x.run(1);
    due("the turn came round", x.count(4), 1);
    x.buy(2, 9);
    x.setHouse(0, 3, 0);
    x.setHouse(1, 1, 6);
    // 6 and 9 of 7: feeder 1 is shed, 9 are too many, feeder 2 is shed. Then 6 and 3: feeder 1 is enough.
    x.run(1);
    due("the turn came round again", x.count(4), 1);
    x.setHouse(2, 1, 3);
    x.run(1);
    due("the turn", x.count(4), 2);
  }

  private static void promise26() {
    MeterPool x = new MeterPool();
    due("0", x.setting(0), 5);
    due("1", x.setting(1), 40);
    due("2", x.setting(2), 50);
    due("3", x.setting(3), 50);
    due("-1", x.setting(-1), BAD);
    due("4", x.setting(4), BAD);
    due("low", x.setting(LOW), BAD);
    due("high", x.setting(HIGH), BAD);
    x.set(2, 61);
    due("set", x.setting(2), 61);
  }

  private static void promise27() {
    MeterPool x = rich(0, 10, 1, 12, 2, 8);
    x.setBattery(0, 0, 100);
    x.run(1);
    long before = x.digest();
    // As in promise 11: feeder 1 was shed; 2 went to battery 0, of which 1 was charged.
    due("charge now", x.account(5), 1);
    // Wanted are 30 of 21: feeder 2 is shed, 22 are too many, feeder 1 is shed; 10 are left for the battery: 9.
    row("one hour", new int[] {x.ifRun(1, 0), x.ifRun(1, 1), x.ifRun(1, 2), x.ifRun(1, 3), x.ifRun(1, 4)},
        10, 2, 0, 10, 2);
    // Then 30 of 30: none is shed, and the battery gives 10.
    row("two hours", new int[] {x.ifRun(2, 0), x.ifRun(2, 1), x.ifRun(2, 2), x.ifRun(2, 3), x.ifRun(2, 4)},
        40, 2, 0, 0, 0);
    due("nothing changed", x.digest(), before);
    due("no change", x.count(5), 8);
    MeterPool z = rich(0, 10, 1, 12);
    row("feeder 1 alone", new int[] {z.ifRun(1, 0), z.ifRun(1, 1), z.ifRun(2, 1), z.ifRun(2, 0)}, 10, 1, 2, 20);
    int[][] wrong = {{0, 0}, {101, 0}, {-1, 0}, {LOW, 0}, {HIGH, 0}, {1, -1}, {1, 5}, {1, HIGH}};
    for (int[] a : wrong) {
      due("ifRun " + a[0] + " " + a[1], x.ifRun(a[0], a[1]), BAD);
    }
    MeterPool y = new MeterPool();
    row("an empty village", new int[] {y.ifRun(100, 0), y.ifRun(100, 1), y.ifRun(100, 2), y.ifRun(100, 3),
        y.ifRun(100, 4)}, 0, 0, 1800, 0, 0);
    y.run(50);
    due("not what was before", y.ifRun(1, 2), 18);
  }

  private static void promise28() {
    MeterPool x = new MeterPool();
    due("no house", x.darkIn(0), BAD);
    x.addHouse(0, 2);
    due("-1", x.darkIn(-1), BAD);
    due("1", x.darkIn(1), BAD);
    due("high", x.darkIn(HIGH), BAD);
    due("the overdraft", x.darkIn(0), 2);
    x.buy(0, 394);
    due("the last of 200", x.darkIn(0), 199);
    x.buy(0, 1);
    due("none of 200", x.darkIn(0), NONE);
    due("nothing changed", x.count(2), 0);
    x.setHouse(0, 3, 0);
    due("at once", x.darkIn(0), 0);
    x.setHouse(0, 1, 0);
    due("no demand", x.darkIn(0), NONE);
    MeterPool y = rich(0, 10, 1, 11);
    supply(y, "21,20");
    due("shed", y.darkIn(1), 1);
    due("not shed", y.darkIn(0), 50);
    y.run(1);
    due("after the hour", y.darkIn(1), 0);
  }

  private static void promise29() {
    MeterPool x = new MeterPool();
    due("no house", x.tokenFor(0, 1), BAD);
    x.addHouse(0, 9);
    int[][] wrong = {{-1, 5}, {1, 5}, {HIGH, 5}, {0, 0}, {0, 49}, {0, -1}, {0, LOW}, {0, HIGH}};
    for (int[] a : wrong) {
      due("tokenFor " + a[0] + " " + a[1], x.tokenFor(a[0], a[1]), BAD);
    }
    due("one hour", x.tokenFor(0, 1), 4);
    due("48 hours", x.tokenFor(0, 48), 427);
    x.setHouse(0, 1, 10);
    due("480 less the overdraft", x.tokenFor(0, 48), 475);
    x.setHouse(0, 1, 11);
    due("more than 500", x.tokenFor(0, 48), NONE);
    due("505 less the overdraft", x.tokenFor(0, 45), 490);
    x.set(0, 0);
    x.setHouse(0, 1, 20);
    due("just 500", x.tokenFor(0, 25), 500);
    due("one more", x.tokenFor(0, 26), NONE);
    x.set(0, 5);
    x.setHouse(0, 1, 5);
    due("none is needed", x.tokenFor(0, 1), 0);
    x.setHouse(0, 2, 1000);
    // 5 more are needed; of 7 units 2 go to the debt, and of 6 units 2 as well.
    due("with a debt", x.tokenFor(0, 2), 7);
    due("nothing changed", x.count(2) + x.account(6) + x.house(0, 4), 0);
    x.setHouse(0, 3, 0);
    due("not connected", x.tokenFor(0, 2), NONE);
    x.setHouse(0, 1, 0);
    due("no demand", x.tokenFor(0, 2), 0);
    MeterPool w = new MeterPool();
    w.addHouse(0, 5);
    w.run(1);
    w.set(0, 0);
    w.setHouse(0, 1, 0);
    due("no demand below the overdraft", w.tokenFor(0, 9), 0);
    // The token is paid to the lender, too; he draws more then, and so the feeder of both is shed.
    MeterPool y = new MeterPool();
    y.addHouse(1, 10);
    y.addHouse(1, 30);
    y.buy(1, 10);
    y.lend(1, 0, 10);
    due("borrowed credit is enough", y.tokenFor(0, 1), 0);
    // For two hours 5 more are needed: of 9 units 4 go to the lender, who draws 9 then: 19 are wanted.
    due("two hours", y.tokenFor(0, 2), 9);
    supply(y, "19");
    due("just enough for both", y.tokenFor(0, 2), 9);
    supply(y, "18");
    due("too little for both", y.tokenFor(0, 2), NONE);
    supply(y, "18,0,20");
    y.setBattery(0, 0, 10);
    due("nothing to give it yet", y.tokenFor(0, 2), NONE);
    MeterPool z = rich(0, 30);
    z.addHouse(0, 10);
    due("too little energy", z.tokenFor(1, 1), NONE);
  }

  private static void promise30() {
    MeterPool x = rich(0, 10, 1, 12, 2, 8);
    check.dueDouble("before an hour", x.met(), 0.0);
    x.run(1);
    check.dueDouble("18 of 30", x.met(), 18.0 / 30.0);
    x.setHouse(0, 1, 30);
    check.dueDouble("18 of 50", x.met(), 18.0 / 50.0);
    x.addHouse(0, 7);
    check.dueDouble("18 of 57", x.met(), 18.0 / 57.0);
    x.removeHouse(2);
    check.dueDouble("10 of 49", x.met(), 10.0 / 49.0);
    x.setHouse(0, 1, 0);
    x.setHouse(1, 1, 3);
    x.setHouse(2, 1, 0);
    check.dueDouble("10 of 3", x.met(), 10.0 / 3.0);
    x.setHouse(1, 1, 0);
    check.dueDouble("no demand", x.met(), 1.0);
    check.dueDouble("no house", new MeterPool().met(), 1.0);
  }

  private static long hash(long... values) {
    long hash = 2111;
    for (long value : values) {
      hash = 31 * hash + value;
    }
    return hash;
  }

  private static void promise31() {
    MeterPool x = new MeterPool();
    due("new", x.digest(), hash(0, 0, 0, 1, 1, 0, 0, 0, 5, 40, 50, 50, 0, 0, 0, 0, 0, 0, 0, 0,
        0, 20, 90, 0, 0, 0, 20, 90, 0, 0, 0, 0, 0, 0, 0, 0, 0, 0, 0, 0, 0, 0, 0, 0, 0,
        20, 0, 0, 432, 0, 0, Double.doubleToLongBits(1.0), 0));
    // Two houses, a loan, a list and a text.
    x.addHouse(0, 4);
    x.addHouse(1, 6);
    x.buy(1, 100);
    x.lend(1, 0, 2);
    supply(x, "7*2,9");
    x.run(1);
    x.keep(1);
    typeAll(x, "8*");
    // Wanted were 10 of 7, so feeder 1 was shed; 3 were left, of which the batteries lost 2.
    long[] head = {2, 1, 1, 3, 2, 6, 2, 1, 5, 40, 50, 50, 7, 4, 2, 1, 0, 0, 100, 0,
        0, 4, 0, 1, -2, 3, 4, 0, 4, 2, 0, 1, 6, 0, 1, 98, 6, 0, 3, 0, 0, 2, 1, 0, 2,
        0, 20, 90, 0, 0, 0, 20, 90, 0, 0, 1, 3, -2, 0, 0, 1, 6, 98, 1, 1, 0, 0, 0, 0, 0, 7, 7, 9};
    long[] tail = {x.ifRun(24, 0), x.ifRun(24, 1), x.ifRun(24, 2), x.ifRun(24, 3), x.ifRun(24, 4),
        Double.doubleToLongBits(4.0 / 10.0), 2, '8', '*'};
    long[] all = new long[head.length + tail.length];
    System.arraycopy(head, 0, all, 0, head.length);
    System.arraycopy(tail, 0, all, head.length, tail.length);
    due("full", x.digest(), hash(all));
    due("nothing changed", x.digest(), hash(all));
    // The bits of met: for no share at all, and for shares below, at and above powers of 2.
    for (int got = 0; got <= 8; got += got < 3 ? 1 : 5) {
      for (int demand = 0; demand <= 50; demand++) {
        MeterPool y = new MeterPool();
        Model m = new Model();
        y.addHouse(0, got);
        m.addHouse(0, got);
        y.buy(0, 100);
        m.buy(0, 100);
        y.run(1);
        m.run(1);
        y.setHouse(0, 1, demand);
        m.setHouse(0, 1, demand);
        due(got + " of " + demand, y.digest(), m.digest());
      }
    }
  }

  /** Each call that the document marks as a change records one state, also if it changes no value. */
  private static void changes() {
    MeterPool x = new MeterPool();
    x.addHouse(0, 1);
    due("addHouse", x.count(5), 1);
    x.addHouse(0, 1);
    x.buy(0, 50);
    due("buy", x.count(5), 3);
    x.lend(0, 1, 5);
    due("lend", x.count(5), 4);
    x.net();
    due("net", x.count(5), 5);
    x.remit(0);
    due("remit", x.count(5), 6);
    x.set(0, 5);
    due("set", x.count(5), 7);
    x.setBattery(0, 0, 0);
    due("setBattery", x.count(5), 8);
    MeterPool y = new MeterPool();
    y.run(2);
    due("run", y.count(5), 1);
    y.type('1');
    y.load();
    due("load", y.count(5), 2);
    y.keep(0);
    y.back(0);
    due("back", y.count(5), 3);
    y.addHouse(0, 1);
    y.setHouse(0, 0, 0);
    due("setHouse", y.count(5), 5);
    y.removeHouse(0);
    due("removeHouse", y.count(5), 6);
    y.undo();
    due("undo", y.count(5), 5);
  }

  /** The other calls, and those that return an error, record nothing. */
  private static void noChanges() {
    MeterPool x = rich(0, 10, 1, 5);
    x.lend(0, 1, 5);
    long before = x.digest();
    x.type('1');
    x.clear();
    x.fault();
    x.load();
    x.back(0);
    x.removeHouse(0);
    x.addHouse(9, 9);
    x.setHouse(9, 9, 9);
    x.buy(9, 9);
    x.lend(0, 0, 1);
    x.remit(9);
    x.set(9, 9);
    x.setBattery(9, 9, 9);
    x.run(0);
    x.keep(9);
    x.ifRun(9, 0);
    x.darkIn(0);
    x.tokenFor(1, 40);
    x.met();
    x.house(0, 5);
    x.feeder(0, 1);
    due("nothing changed", x.digest(), before);
    due("nothing was recorded", x.count(5), 5);
  }

  /** As many houses, loans, numbers and states as there can be. */
  private static void fullVillage() {
    MeterPool x = new MeterPool();
    Model m = new Model();
    for (int i = 0; i < 10; i++) {
      x.addHouse(i % 3, 5 * i);
      m.addHouse(i % 3, 5 * i);
      x.buy(i, 50 * i + 12);
      m.buy(i, 50 * i + 12);
    }
    for (int i = 0; i < 12; i++) {
      x.lend(9 - i / 2, (i + 5) % 10 == 9 - i / 2 ? 0 : (i + 5) % 10, 3 + i);
      m.lend(9 - i / 2, (i + 5) % 10 == 9 - i / 2 ? 0 : (i + 5) % 10, 3 + i);
    }
    due("loans", x.count(1), 12);
    String text = "90*40,500,0,77*6";
    for (int i = 0; i < text.length(); i++) {
      x.type(text.charAt(i));
      m.type(text.charAt(i));
    }
    due("list", x.load(), m.load());
    due("full", x.digest(), m.digest());
    due("an hour", x.run(1), m.run(1));
    due("many hours", x.run(100), m.run(100));
    for (int house = 0; house < 10; house++) {
      due("token", x.tokenFor(house, 3), m.tokenFor(house, 3));
      due("dark", x.darkIn(house), m.darkIn(house));
      due("debt", x.setHouse(house, 2, 40 * house), m.setHouse(house, 2, 40 * house));
      due("buy", x.buy(house, 100), m.buy(house, 100));
      due("as the model", x.digest(), m.digest());
    }
    due("nets", x.net(), m.net());
    for (int house = 9; house >= 0; house--) {
      due("remove " + house, x.removeHouse(house), m.removeHouse(house));
    }
    due("in the end", x.digest(), m.digest());
  }
}
