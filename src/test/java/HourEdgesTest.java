/**
 * The sentences of "Batteries", "Hours" and "Accounts" and of promises 10, 11, 21, 23 and 24 that name a boundary case,
 * each with a test of its own; the sentence stands above it. What is refused stands in RefusalsTest.
 */
public final class HourEdgesTest extends PoolChecks {
  public static void main(String[] args) {
    twoBatteries();
    capacityFrom0To500();
    rateFrom0To100();
    efficiencyFrom50To100();
    batteriesAtFirst();
    lesserOfChargeAndRate();
    discarded();
    onlyCapacityDiscards();
    hoursFrom1To100();
    usedInThem();
    oneChange();
    indexModuloLength();
    indexOfTheHour();
    supplyFarAway();
    supplyAtFirst();
    turnAtFirst();
    batteriesAreAvailable();
    sumJustAvailable();
    nothingWanted();
    shedOfTheTurn();
    nothingToShed();
    shedOnceMore();
    atMostTwice();
    turnGoesOnInEitherCase();
    turnComesRound();
    vitalFeederIsNotShed();
    shedHousesGetNothing();
    ascendingOrder();
    asMuchIsLeft();
    leastPart();
    leastPartOfWhatItWants();
    leastPart0And100();
    nothingIsLeft();
    leftForThoseBehind();
    creditDecreases();
    justTheSupply();
    restFromTheBatteries();
    battery1WhenBattery0CanGiveNoMore();
    noMoreThanTheyCanGive();
    chargesBattery0First();
    lesserOfRateAndLeft();
    notAboveItsCapacity();
    greatestSuchX();
    fullBattery();
    rate0();
    chargeRoundedDown();
    eachByItsOwn();
    spilled();
    noSupply();
    hourIncreases();
    reason0();
    reason1();
    reason2();
    reason3();
    reason4();
    accountsAddUp();
    greatestAmounts();
    check.end();
  }

  /** A pool without a house in which battery 0 alone takes anything. */
  private static MeterPool oneBattery(int capacity, int rate, int efficiency) {
    MeterPool x = new MeterPool();
    x.setBattery(1, 1, 0);
    x.setBattery(0, 0, capacity);
    x.setBattery(0, 1, rate);
    x.setBattery(0, 2, efficiency);
    return x;
  }

  private static int[] turns(MeterPool x, int hours) {
    int[] row = new int[hours];
    for (int i = 0; i < hours; i++) {
      x.run(1);
      row[i] = x.count(4);
    }
    return row;
  }

  /** "There are two batteries, 0 and 1" */
  private static void twoBatteries() {
    MeterPool x = new MeterPool();
    due("-1", x.battery(-1, 0), BAD);
    due("2", x.battery(2, 0), BAD);
    due("set -1", x.setBattery(-1, 0, 5), BAD);
    due("set 2", x.setBattery(2, 0, 5), BAD);
    due("set 0", x.setBattery(0, 0, 5), 0);
    due("set 1", x.setBattery(1, 0, 6), 0);
    row("both", ints(x.battery(0, 0), x.battery(1, 0)), 5, 6);
  }

  /** "A battery has a capacity (0 to 500 ..)" */
  private static void capacityFrom0To500() {
    for (int battery = 0; battery < 2; battery++) {
      MeterPool x = new MeterPool();
      due("-1", x.setBattery(battery, 0, -1), BAD);
      due("501", x.setBattery(battery, 0, 501), BAD);
      due("500", x.setBattery(battery, 0, 500), 0);
      due("0", x.setBattery(battery, 0, 0), 500);
      due("told", x.battery(battery, 0), 0);
    }
    MeterPool x = oneBattery(500, 100, 100);
    supply(x, "500");
    x.run(6);
    row("filled", batteryRow(x, 0), 500, 100, 100, 500, 100);
  }

  /** "a rate (0 to 100 units an hour ..)" */
  private static void rateFrom0To100() {
    for (int battery = 0; battery < 2; battery++) {
      MeterPool x = new MeterPool();
      due("-1", x.setBattery(battery, 1, -1), BAD);
      due("101", x.setBattery(battery, 1, 101), BAD);
      due("100", x.setBattery(battery, 1, 100), 20);
      due("0", x.setBattery(battery, 1, 0), 100);
      due("told", x.battery(battery, 1), 0);
    }
  }

  /** "and an efficiency (50 to 100 percent ..)" */
  private static void efficiencyFrom50To100() {
    for (int battery = 0; battery < 2; battery++) {
      MeterPool x = new MeterPool();
      due("49", x.setBattery(battery, 2, 49), BAD);
      due("0", x.setBattery(battery, 2, 0), BAD);
      due("101", x.setBattery(battery, 2, 101), BAD);
      due("50", x.setBattery(battery, 2, 50), 90);
      due("100", x.setBattery(battery, 2, 100), 50);
      due("told", x.battery(battery, 2), 100);
    }
  }

  /** "at first 0 .. (at first 0) .. at first 20 .. at first 90" */
  private static void batteriesAtFirst() {
    MeterPool x = new MeterPool();
    row("battery 0", batteryRow(x, 0), 0, 20, 90, 0, 0);
    row("battery 1", batteryRow(x, 1), 0, 20, 90, 0, 0);
  }

  /** "It can give the lesser one of its charge and its rate in an hour." */
  private static void lesserOfChargeAndRate() {
    MeterPool x = oneBattery(100, 20, 100);
    x.run(1);
    due("as great as each other", x.battery(0, 4), 20);
    x.setBattery(0, 1, 19);
    due("the rate is one less", x.battery(0, 4), 19);
    x.setBattery(0, 1, 21);
    due("the charge is one less", x.battery(0, 4), 20);
    x.setBattery(0, 1, 0);
    due("no rate", x.battery(0, 4), 0);
    x.setBattery(0, 1, 100);
    x.setBattery(0, 0, 0);
    due("no charge", x.battery(0, 4), 0);
  }

  /** "if its charge is greater than its new capacity, what is too much is discarded" */
  private static void discarded() {
    MeterPool x = oneBattery(100, 20, 100);
    x.run(1);
    due("one more", x.setBattery(0, 0, 21), 100);
    row("kept", ints(x.battery(0, 3), x.account(4)), 20, 0);
    due("as much", x.setBattery(0, 0, 20), 21);
    row("kept too", ints(x.battery(0, 3), x.account(4)), 20, 0);
    due("one less", x.setBattery(0, 0, 19), 20);
    row("one is discarded", ints(x.battery(0, 3), x.account(4)), 19, 1);
    due("none", x.setBattery(0, 0, 0), 19);
    row("all is discarded", ints(x.battery(0, 3), x.account(4)), 0, 20);
    due("none again", x.setBattery(0, 0, 0), 0);
    due("no more", x.account(4), 20);
    x.setBattery(0, 0, 100);
    due("it does not come back", x.battery(0, 3), 0);
  }

  /** The same: of the battery that is meant, by its capacity alone */
  private static void onlyCapacityDiscards() {
    MeterPool x = new MeterPool();
    supply(x, "40");
    for (int battery = 0; battery < 2; battery++) {
      x.setBattery(battery, 0, 60);
      x.setBattery(battery, 2, 100);
    }
    x.run(1);
    x.setBattery(0, 1, 0);
    x.setBattery(0, 2, 50);
    x.setBattery(1, 1, 1);
    row("kept", ints(x.battery(0, 3), x.battery(1, 3), x.account(4)), 20, 20, 0);
    x.setBattery(1, 0, 5);
    row("of battery 1", ints(x.battery(0, 3), x.battery(1, 3), x.account(4)), 20, 5, 15);
    x.setBattery(0, 0, 4);
    row("of battery 0", ints(x.battery(0, 3), x.battery(1, 3), x.account(4)), 4, 5, 31);
    due("the charge of both", x.account(5), 9);
  }

  /** "hours: 1 to 100" */
  private static void hoursFrom1To100() {
    MeterPool x = new MeterPool();
    due("0", x.run(0), BAD);
    due("101", x.run(101), BAD);
    due("-1", x.run(-1), BAD);
    due("none has passed", x.count(2), 0);
    due("1", x.run(1), 0);
    due("one has passed", x.count(2), 1);
    due("100", x.run(100), 0);
    due("a hundred more", x.count(2), 101);
  }

  /** "Returns how much was used in them": in these hours alone, 0 if nothing was */
  private static void usedInThem() {
    MeterPool x = rich(0, 3);
    due("one hour", x.run(1), 3);
    due("a hundred", x.run(100), 300);
    due("one again", x.run(1), 3);
    x.setHouse(0, 3, 0);
    due("none", x.run(100), 0);
    due("in all", x.account(1), 306);
  }

  /** "Lets hours pass. This is one change." */
  private static void oneChange() {
    MeterPool x = rich(0, 3);
    x.run(100);
    due("states", x.count(5), 3);
    due("one undo", x.undo(), 2);
    row("all of it", ints(x.count(2), x.account(0), x.house(0, 4), x.house(0, 8)), 0, 0, 500, 0);
  }

  /** "it is the number with the index t modulo the length of the list" */
  private static void indexModuloLength() {
    MeterPool x = new MeterPool();
    supply(x, "1,10,100");
    int[] sums = {1, 11, 111, 112, 122, 222, 223};
    for (int hour = 0; hour < sums.length; hour++) {
      x.run(1);
      due("supply after hour " + hour, x.account(0), sums[hour]);
    }
    MeterPool y = new MeterPool();
    supply(y, "3*47,500");
    y.run(47);
    due("47 hours", y.account(0), 141);
    y.run(1);
    due("the last number", y.account(0), 641);
    y.run(1);
    due("the first again", y.account(0), 644);
    y.run(100);
    due("twice more and 5", y.account(0), 644 + 98 * 3 + 2 * 500);
    // Of a length that is no part of 48, beyond the hour 48.
    MeterPool z = new MeterPool();
    supply(z, "1,2,3,4,5");
    int sum = 0;
    for (int hour = 0; hour < 110; hour++) {
      due("number of hour " + hour, z.supply(hour), 1 + hour % 5);
      z.run(1);
      sum += 1 + hour % 5;
      due("sum after hour " + hour, z.account(0), sum);
    }
  }

  /** "in the hour t (from 0 on)": the hour goes on when another list comes */
  private static void indexOfTheHour() {
    MeterPool x = new MeterPool();
    x.run(5);
    supply(x, "1,10,100");
    x.run(1);
    due("index 2", x.account(0), 200);
    supply(x, "100,7");
    x.run(1);
    due("index 0", x.account(0), 300);
    x.run(1);
    due("index 1", x.account(0), 307);
  }

  /** "hour: 0 or more" */
  private static void supplyFarAway() {
    MeterPool x = new MeterPool();
    due("-1", x.supply(-1), BAD);
    due("the least", x.supply(LOW), BAD);
    due("0", x.supply(0), 20);
    due("the greatest", x.supply(HIGH), 20);
    supply(x, "0,1*46,500");
    due("first", x.supply(0), 0);
    due("second", x.supply(1), 1);
    due("last", x.supply(47), 500);
    due("round", x.supply(48), 0);
    due("round again", x.supply(95), 500);
    // 2147483647 is 48 * 44739242 + 31.
    due("the greatest then", x.supply(HIGH), 1);
    due("16 further", x.supply(HIGH - 31), 0);
    due("one before", x.supply(HIGH - 32), 500);
  }

  /** "At first the list has the number 20 alone." */
  private static void supplyAtFirst() {
    MeterPool x = new MeterPool();
    due("length", x.count(3), 1);
    due("number", x.supply(0), 20);
    due("number then", x.supply(1), 20);
    x.run(3);
    due("three hours", x.account(0), 60);
  }

  /** "There is a turn, feeder 1 or 2, at first 1." */
  private static void turnAtFirst() {
    MeterPool x = rich(1, 15, 2, 15);
    due("turn", x.count(4), 1);
    x.run(1);
    row("feeder 1 is shed", ofAll(x, 6), 0, 15);
    due("turn then", x.count(4), 2);
    x.run(1);
    row("feeder 2 is shed", ofAll(x, 6), 15, 0);
    due("turn again", x.count(4), 1);
  }

  /** "What is available is the supply of the hour plus what both batteries can give." */
  private static void batteriesAreAvailable() {
    MeterPool x = new MeterPool();
    supply(x, "60,10*40");
    for (int battery = 0; battery < 2; battery++) {
      x.setBattery(battery, 0, 60);
      x.setBattery(battery, 2, 100);
    }
    x.setBattery(0, 1, 40);
    x.run(1);
    x.setBattery(0, 1, 5);
    row("can give", ints(x.battery(0, 4), x.battery(1, 4)), 5, 20);
    x.addHouse(1, 35);
    x.buy(0, 500);
    due("10 and 5 and 20", x.run(1), 35);
    row("none was shed", ints(x.feeder(1, 3), x.battery(0, 3), x.battery(1, 3)), 0, 35, 0);
    due("10 and 5 alone", x.run(1), 0);
    row("shed", ints(x.feeder(1, 3), x.battery(0, 3)), 1, 40);
  }

  /** "If the sum of what all houses want is greater than what is available": as great is not greater */
  private static void sumJustAvailable() {
    MeterPool x = rich(0, 8, 1, 7, 2, 5);
    due("as great", x.run(1), 20);
    row("none is shed", ints(x.feeder(1, 4), x.feeder(2, 4), x.count(4)), 0, 0, 1);
    x.setHouse(2, 1, 6);
    due("one more", x.run(1), 14);
    row("one is shed", ints(x.feeder(1, 4), x.feeder(2, 4), x.count(4)), 1, 0, 2);
    x.setHouse(2, 1, 4);
    due("one less", x.run(1), 19);
    row("none is shed then", ints(x.feeder(1, 4), x.feeder(2, 4), x.count(4)), 0, 0, 2);
  }

  /** The same with 0 of 0 */
  private static void nothingWanted() {
    MeterPool x = rich(1, 0, 2, 10);
    x.setHouse(1, 3, 0);
    supply(x, "0");
    due("0 of 0", x.run(3), 0);
    row("none is shed", ints(x.feeder(1, 3), x.feeder(2, 3), x.count(4)), 0, 0, 1);
    x.setHouse(0, 1, 1);
    due("1 of 0", x.run(1), 0);
    row("shed", ints(x.feeder(1, 3), x.feeder(2, 3), x.count(4)), 1, 0, 2);
  }

  /** "the feeder whose turn it is is shed, if any house of it wants something": one unit of one house is enough */
  private static void shedOfTheTurn() {
    MeterPool x = rich(0, 20, 1, 0, 1, 1);
    due("used", x.run(1), 20);
    row("feeder 1", feederRow(x, 1), 2, 1, 1000, 1, 1);
    due("turn", x.count(4), 2);
  }

  /** The same: not if none wants anything, be it without houses, without demand, connection or credit */
  private static void nothingToShed() {
    for (int way = 0; way < 4; way++) {
      MeterPool x = rich(0, 15, 2, 10);
      if (way > 0) {
        x.addHouse(1, way == 1 ? 0 : 9);
      }
      if (way == 2) {
        x.setHouse(2, 3, 0);
      }
      if (way == 3) {
        x.set(0, 0);
      }
      due("used, way " + way, x.run(1), 15);
      row("feeder 1, way " + way, ints(x.feeder(1, 3), x.feeder(1, 4)), 0, 0);
      row("feeder 2, way " + way, ints(x.feeder(2, 3), x.feeder(2, 4)), 1, 1);
      due("turn, way " + way, x.count(4), 1);
    }
  }

  /** "if the sum is still greater, this is done once more with that feeder": as great is not greater */
  private static void shedOnceMore() {
    MeterPool x = rich(0, 10, 1, 5, 2, 10);
    due("as great is left", x.run(1), 20);
    row("one is shed", ints(x.feeder(1, 4), x.feeder(2, 4), x.count(4)), 1, 0, 2);
    MeterPool y = rich(0, 10, 1, 5, 2, 11);
    due("one more is left", y.run(1), 10);
    row("both are shed", ints(y.feeder(1, 4), y.feeder(2, 4), y.count(4)), 1, 1, 1);
  }

  /** "once more": not a third time, whatever the sum is then */
  private static void atMostTwice() {
    MeterPool x = rich(0, 50, 1, 5, 2, 5);
    due("40 percent of it", x.set(3, 40), 50);
    due("used", x.run(1), 20);
    row("both are shed", ints(x.feeder(1, 3), x.feeder(2, 3), x.count(4)), 1, 1, 1);
    MeterPool y = rich(0, 50);
    due("less than 50 percent", y.run(1), 0);
    row("none is shed", ints(y.feeder(0, 3), y.feeder(1, 3), y.feeder(2, 3), y.count(4)), 0, 0, 0, 1);
  }

  /** "and the turn goes to the other one of the feeders 1 and 2 (in either case)" */
  private static void turnGoesOnInEitherCase() {
    MeterPool x = rich(0, 5, 1, 9, 2, 9);
    // Feeder 1 is shed; then feeder 2, as it is its turn.
    row("in turn", turns(x, 4), 2, 1, 2, 1);
    x.setHouse(1, 3, 0);
    x.setHouse(2, 1, 16);
    // Feeder 1 wants nothing, and feeder 2 is shed.
    row("both in an hour", turns(x, 2), 1, 1);
    row("shed", ints(x.feeder(1, 3), x.feeder(2, 3)), 2, 4);
    x.setHouse(1, 3, 1);
    x.setHouse(1, 1, 16);
    x.setHouse(2, 1, 0);
    // Feeder 1 is shed, and none is too many; then feeder 2 wants nothing, and feeder 1 is shed.
    row("one, then both", turns(x, 2), 2, 2);
    row("shed then", ints(x.feeder(1, 3), x.feeder(2, 3)), 4, 4);
  }

  /** "(the turn goes on again)": after both it is where it was */
  private static void turnComesRound() {
    MeterPool x = rich(0, 15, 1, 9, 2, 9);
    row("from 1", turns(x, 3), 1, 1, 1);
    x.setHouse(0, 1, 5);
    row("one alone", turns(x, 1), 2);
    x.setHouse(0, 1, 15);
    row("from 2", turns(x, 3), 2, 2, 2);
    row("shed", ints(x.feeder(1, 3), x.feeder(2, 3)), 7, 6);
    x.setHouse(0, 1, 2);
    row("not at all", turns(x, 2), 2, 2);
  }

  /** "feeder 0 is the vital one": it is not shed, it is served by parts */
  private static void vitalFeederIsNotShed() {
    MeterPool x = rich(0, 14, 0, 12);
    due("used", x.run(1), 20);
    row("parts", ofAll(x, 6), 14, 6);
    row("reasons", ofAll(x, 7), 0, 4);
    row("feeder 0", ints(x.feeder(0, 3), x.feeder(0, 4)), 0, 0);
  }

  /** "(its houses want nothing then)": not even what would be left */
  private static void shedHousesGetNothing() {
    MeterPool x = rich(0, 2, 1, 1, 1, 19);
    due("used", x.run(1), 2);
    row("got", ofAll(x, 6), 2, 0, 0);
    row("reasons", ofAll(x, 7), 0, 3, 3);
    row("credits", ofAll(x, 4), 498, 500, 500);
    // 18 are left: each battery loses 1 of them.
    row("accounts", accounts(x), 20, 2, 2, 16, 0, 0, 1500, 0);
  }

  /** "in ascending order of their feeders, those of the same feeder in ascending order of their numbers" */
  private static void ascendingOrder() {
    MeterPool x = rich(0, 12, 0, 12);
    x.set(3, 0);
    x.run(1);
    row("by numbers", ofAll(x, 6), 12, 8);
    x.setHouse(0, 0, 2);
    // 24 of 20: feeder 1 wants nothing, feeder 2 is shed.
    x.run(1);
    row("feeder 2 is shed", ofAll(x, 6), 0, 12);
    // More of feeder 0 than there is: its last house gets the rest, and none behind gets any.
    MeterPool y = rich(0, 9, 0, 9, 0, 9, 0, 9);
    y.set(3, 0);
    y.run(1);
    row("by numbers again", ofAll(y, 6), 9, 9, 2, 0);
    y.setHouse(0, 1, 0);
    y.run(1);
    row("from the second on", ofAll(y, 6), 0, 9, 9, 2);
  }

  /** "Each one gets what it wants, if as much is left of what is available" */
  private static void asMuchIsLeft() {
    MeterPool x = rich(0, 12, 0, 8);
    x.set(3, 100);
    due("just as much", x.run(1), 20);
    x.setHouse(1, 1, 9);
    due("one less", x.run(1), 12);
    row("got", ofAll(x, 6), 12, 0);
    x.setHouse(1, 1, 7);
    due("one more", x.run(1), 19);
  }

  /** "if that is at least setting 3 percent of what it wants (what is left * 100 is at least what it wants * ..)" */
  private static void leastPart() {
    // Demand, percent, got of 20 that are left.
    int[][] rows = {{40, 50, 20}, {41, 50, 0}, {40, 51, 0}, {41, 48, 20}, {41, 49, 0}, {21, 95, 20}, {21, 96, 0},
        {30, 66, 20}, {30, 67, 0}, {50, 40, 20}, {50, 41, 0}, {49, 40, 20}, {49, 41, 0}, {21, 100, 0}, {20, 100, 20}};
    for (int[] r : rows) {
      MeterPool x = rich(0, r[0]);
      x.set(3, r[1]);
      due(r[1] + " percent of " + r[0], x.run(1), r[2]);
      due("credit", x.house(0, 4), 500 - r[2]);
    }
  }

  /** The same: of what it wants, which may be less than its demand */
  private static void leastPartOfWhatItWants() {
    MeterPool x = new MeterPool();
    x.addHouse(0, 14);
    x.addHouse(0, 50);
    x.buy(0, 100);
    x.buy(1, 7);
    // 6 are left: that is half of the 12 that it can draw, and less than a quarter of its demand.
    due("half of what it wants", x.run(1), 20);
    row("got", ofAll(x, 6), 14, 6);
    row("reasons", ofAll(x, 7), 0, 2);
    x.buy(1, 7);
    due("less than half of it", x.run(1), 14);
    row("got then", ofAll(x, 6), 14, 0);
  }

  /** "3: the least part, in percent, 0 to 100": 0 and 100 */
  private static void leastPart0And100() {
    MeterPool x = rich(0, 19, 0, 50);
    x.set(3, 0);
    due("one of 50 is enough", x.run(1), 20);
    row("got", ofAll(x, 6), 19, 1);
    x.set(3, 2);
    due("one of 50 is 2 percent", x.run(1), 20);
    x.set(3, 3);
    due("one of 50 is not 3 percent", x.run(1), 19);
    x.set(3, 100);
    x.setHouse(1, 1, 2);
    due("one of 2 is not all", x.run(1), 19);
    x.setHouse(1, 1, 1);
    due("one of 1 is", x.run(1), 20);
  }

  /** "otherwise what is left, .. or nothing": what is left may be 0 */
  private static void nothingIsLeft() {
    MeterPool x = rich(0, 20, 0, 10, 0, 0);
    x.set(3, 0);
    due("used", x.run(1), 20);
    row("got", ofAll(x, 6), 20, 0, 0);
    row("reasons", ofAll(x, 7), 0, 4, 0);
    supply(x, "0");
    due("none", x.run(1), 0);
    row("none for all", ofAll(x, 6), 0, 0, 0);
    row("reasons of all", ofAll(x, 7), 4, 4, 0);
  }

  /** "or nothing (what is left is there for those behind it)" */
  private static void leftForThoseBehind() {
    MeterPool x = rich(0, 14, 0, 13, 0, 6, 0, 1);
    due("used", x.run(1), 20);
    row("got", ofAll(x, 6), 14, 0, 6, 0);
    x.setHouse(2, 1, 5);
    due("used then", x.run(1), 20);
    row("got then", ofAll(x, 6), 14, 0, 5, 1);
    // A part takes all that is left.
    x.setHouse(1, 1, 12);
    due("used by a part", x.run(1), 20);
    row("got of a part", ofAll(x, 6), 14, 6, 0, 0);
  }

  /** "Its credit decreases by what it gets": down to the overdraft below 0, and by nothing if it gets nothing */
  private static void creditDecreases() {
    MeterPool x = new MeterPool();
    supply(x, "500");
    x.addHouse(0, 50);
    x.addHouse(0, 50);
    x.set(0, 50);
    due("used", x.run(1), 100);
    row("credits", ofAll(x, 4), -50, -50);
    due("used then", x.run(1), 0);
    row("credits stay", ofAll(x, 4), -50, -50);
  }

  /** "If the houses got more than the supply ..": as much is not more; then nothing is left, and nothing is taken */
  private static void justTheSupply() {
    MeterPool x = oneBattery(100, 20, 100);
    x.run(1);
    x.addHouse(0, 20);
    x.buy(0, 100);
    due("just the supply", x.run(1), 20);
    row("untouched", accounts(x), 40, 20, 0, 0, 0, 20, 100, 0);
    x.setHouse(0, 1, 21);
    due("one more", x.run(1), 21);
    row("one is taken", accounts(x), 60, 41, 0, 0, 0, 19, 100, 0);
    x.setHouse(0, 1, 19);
    due("one less", x.run(1), 19);
    row("one is put in", accounts(x), 80, 60, 0, 0, 0, 20, 100, 0);
  }

  /** "the rest is taken from battery 0 as far as it can give it, then from battery 1" */
  private static void restFromTheBatteries() {
    // Of 20 in each: the demand, and what is left in both.
    int[][] rows = {{1, 19, 20}, {19, 1, 20}, {20, 0, 20}, {21, 0, 19}, {39, 0, 1}, {40, 0, 0}};
    for (int[] r : rows) {
      MeterPool x = new MeterPool();
      supply(x, "40,0");
      for (int battery = 0; battery < 2; battery++) {
        x.setBattery(battery, 0, 20);
        x.setBattery(battery, 2, 100);
      }
      x.run(1);
      x.addHouse(0, r[0]);
      x.buy(0, 100);
      due("used of " + r[0], x.run(1), r[0]);
      row("left of " + r[0], ints(x.battery(0, 3), x.battery(1, 3)), r[1], r[2]);
    }
  }

  /** "as far as it can give it": its rate counts as its charge does */
  private static void battery1WhenBattery0CanGiveNoMore() {
    MeterPool x = new MeterPool();
    supply(x, "40,0");
    for (int battery = 0; battery < 2; battery++) {
      x.setBattery(battery, 0, 20);
      x.setBattery(battery, 2, 100);
    }
    x.run(1);
    x.setBattery(0, 1, 3);
    x.addHouse(0, 7);
    x.buy(0, 100);
    due("used", x.run(1), 7);
    row("3 and 4", ints(x.battery(0, 3), x.battery(1, 3)), 17, 16);
    x.setBattery(0, 1, 0);
    x.setBattery(1, 1, 7);
    x.run(1);
    due("used without battery 0", x.run(1), 7);
    due("17 stay", x.battery(0, 3), 17);
  }

  /** "the lesser one of its charge and its rate": no house gets more than the supply and this */
  private static void noMoreThanTheyCanGive() {
    MeterPool x = oneBattery(100, 30, 100);
    supply(x, "30,5,5,5");
    x.run(1);
    x.setBattery(0, 1, 12);
    x.addHouse(0, 50);
    x.buy(0, 400);
    x.set(3, 0);
    due("5 and 12", x.run(1), 17);
    due("5 and 12 again", x.run(1), 17);
    due("5 and 6", x.run(1), 11);
    row("nothing is left", accounts(x), 45, 45, 0, 0, 0, 0, 400, 0);
  }

  /** "Otherwise what is left of the supply charges battery 0, then battery 1" */
  private static void chargesBattery0First() {
    // The supply, and the charges; each takes 20 at most.
    int[][] rows = {{0, 0, 0, 0}, {1, 1, 0, 0}, {19, 19, 0, 0}, {20, 20, 0, 0}, {21, 20, 1, 0}, {39, 20, 19, 0},
        {40, 20, 20, 0}, {41, 20, 20, 1}, {500, 20, 20, 460}};
    for (int[] r : rows) {
      MeterPool x = new MeterPool();
      supply(x, "" + r[0]);
      for (int battery = 0; battery < 2; battery++) {
        x.setBattery(battery, 0, 100);
        x.setBattery(battery, 2, 100);
      }
      x.run(1);
      row("of " + r[0], ints(x.battery(0, 3), x.battery(1, 3), x.account(3)), r[1], r[2], r[3]);
    }
  }

  /** "a battery takes x units, the lesser one of its rate and what is left" */
  private static void lesserOfRateAndLeft() {
    // The rate, the charge, and what is spilled of 20.
    int[][] rows = {{0, 0, 20}, {1, 1, 19}, {19, 19, 1}, {20, 20, 0}, {21, 20, 0}, {100, 20, 0}};
    for (int[] r : rows) {
      MeterPool x = oneBattery(500, r[0], 100);
      x.run(1);
      row("at the rate " + r[0], accounts(x), 20, 0, 0, r[2], 0, r[1], 0, 0);
    }
  }

  /** "but no more than with which its charge does not exceed its capacity" */
  private static void notAboveItsCapacity() {
    // The capacity, the charge, and what is spilled of 20.
    int[][] rows = {{0, 0, 20}, {1, 1, 19}, {19, 19, 1}, {20, 20, 0}, {21, 20, 0}};
    for (int[] r : rows) {
      MeterPool x = oneBattery(r[0], 100, 100);
      x.run(1);
      row("in " + r[0], accounts(x), 20, 0, 0, r[2], 0, r[1], 0, 0);
      x.run(1);
      due("then in " + r[0], x.account(5), Math.min(r[0], 40));
    }
  }

  /** "(the greatest such x)": also one of which more is lost */
  private static void greatestSuchX() {
    // Capacity, efficiency, taken, charge: x * efficiency / 100 is no more than the capacity, one more would be.
    int[][] rows = {{10, 90, 12, 10}, {9, 90, 11, 9}, {10, 50, 21, 10}, {1, 50, 3, 1}, {0, 50, 1, 0}, {0, 99, 1, 0},
        {0, 100, 0, 0}, {35, 90, 39, 35}, {10, 99, 11, 10}, {10, 100, 10, 10}, {10, 51, 21, 10}, {7, 67, 11, 7},
        {2, 67, 4, 2}, {50, 51, 99, 50}, {49, 50, 99, 49}, {50, 50, 100, 50},
        {100, 100, 100, 100}, {99, 100, 99, 99}, {97, 98, 99, 97}, {89, 90, 99, 89}, {79, 80, 99, 79}, {80, 80, 100, 80}};
    for (int[] r : rows) {
      MeterPool x = oneBattery(r[0], 100, r[1]);
      supply(x, "200");
      x.run(1);
      row("in " + r[0] + " at " + r[1], accounts(x), 200, 0, r[2] - r[3], 200 - r[2], 0, r[3], 0, 0);
    }
  }

  /** The same when it is full: it takes what charges nothing */
  private static void fullBattery() {
    // Efficiency, taken by a battery that is full: the greatest x of which x * efficiency / 100 is 0.
    int[][] rows = {{50, 1}, {51, 1}, {90, 1}, {99, 1}, {100, 0}};
    for (int[] r : rows) {
      MeterPool x = oneBattery(20, 20, 100);
      x.run(1);
      x.setBattery(0, 2, r[0]);
      x.run(1);
      row("at " + r[0], accounts(x), 40, 0, r[1], 20 - r[1], 0, 20, 0, 0);
    }
    MeterPool x = new MeterPool();
    supply(x, "2,1");
    x.run(1);
    row("each takes one", accounts(x), 2, 0, 2, 0, 0, 0, 0, 0);
    x.run(1);
    row("battery 0 takes the only one", accounts(x), 3, 0, 3, 0, 0, 0, 0, 0);
  }

  /** "a rate (0 to 100 ..)": with 0 it neither takes nor gives */
  private static void rate0() {
    MeterPool x = oneBattery(100, 20, 100);
    x.run(1);
    x.setBattery(0, 1, 0);
    x.run(1);
    row("it does not take", accounts(x), 40, 0, 0, 20, 0, 20, 0, 0);
    x.addHouse(0, 25);
    x.buy(0, 100);
    due("it does not give", x.run(1), 20);
    due("its charge stays", x.battery(0, 3), 20);
  }

  /** "its charge increases by x * efficiency / 100, and the rest of x is lost" */
  private static void chargeRoundedDown() {
    // The rate, the efficiency, the charge: 0.5, 0.99, 1, 1.5, 1.98, 10.8, 17.1
    int[][] rows = {{1, 50, 0}, {1, 99, 0}, {1, 100, 1}, {3, 50, 1}, {2, 99, 1}, {12, 90, 10}, {19, 90, 17}, {2, 50, 1}};
    for (int[] r : rows) {
      MeterPool x = oneBattery(500, r[0], r[1]);
      x.run(1);
      row(r[0] + " at " + r[1], accounts(x), 20, 0, r[0] - r[2], 20 - r[0], 0, r[2], 0, 0);
    }
  }

  /** The same: each of the two by its own rate, capacity and efficiency */
  private static void eachByItsOwn() {
    MeterPool x = new MeterPool();
    supply(x, "200");
    x.setBattery(0, 0, 300);
    x.setBattery(0, 1, 31);
    x.setBattery(0, 2, 100);
    x.setBattery(1, 0, 20);
    x.setBattery(1, 1, 37);
    x.setBattery(1, 2, 51);
    x.run(1);
    row("31 and 18 of 37", accounts(x), 200, 0, 19, 132, 0, 31 + 18, 0, 0);
    row("charges", ints(x.battery(0, 3), x.battery(1, 3)), 31, 18);
    x.run(1);
    // Battery 1 has room for 2: 5 * 51 / 100 is 2, 6 are 3.
    row("31 and 2 of 5", accounts(x), 400, 0, 22, 296, 0, 62 + 20, 0, 0);
    row("charges then", ints(x.battery(0, 3), x.battery(1, 3)), 62, 20);
  }

  /** "What no battery takes is spilled.": all of it, some of it, none of it */
  private static void spilled() {
    MeterPool x = oneBattery(500, 20, 100);
    x.run(1);
    due("none", x.account(3), 0);
    x.setBattery(0, 1, 19);
    x.run(1);
    due("one", x.account(3), 1);
    x.setBattery(0, 1, 0);
    x.run(1);
    due("all", x.account(3), 21);
    x.addHouse(0, 50);
    x.buy(0, 50);
    x.setHouse(0, 1, 20);
    x.run(1);
    due("what is used is not", x.account(3), 21);
  }

  /** "numbers (0 to 500)": an hour with the supply 0 */
  private static void noSupply() {
    MeterPool x = rich(0, 10, 1, 1);
    supply(x, "0");
    due("used", x.run(1), 0);
    row("accounts", accounts(x), 0, 0, 0, 0, 0, 0, 1000, 0);
    row("reasons", ofAll(x, 7), 4, 3);
    check.dueDouble("met", x.met(), 0.0);
  }

  /** "The hour increases by 1.": also when nothing happens in it, and beyond the length of the list */
  private static void hourIncreases() {
    MeterPool x = new MeterPool();
    for (int hour = 1; hour <= 60; hour++) {
      x.run(1);
      due("hour", x.count(2), hour);
    }
    x.run(100);
    due("hours", x.count(2), 160);
  }

  /** "The reason of a house in the latest hour is 0 if it got what its demand is": also if that is 0 */
  private static void reason0() {
    MeterPool x = new MeterPool();
    x.addHouse(0, 5);
    x.addHouse(0, 0);
    x.addHouse(0, 0);
    x.addHouse(1, 0);
    x.addHouse(1, 14);
    x.addHouse(2, 2);
    x.buy(4, 100);
    x.buy(5, 100);
    x.setHouse(2, 3, 0);
    // 5 and 14 and 2 of 20: feeder 1 is shed.
    due("used", x.run(1), 7);
    row("reasons", ofAll(x, 7), 0, 0, 0, 0, 3, 0);
    row("met just by the overdraft", ints(x.house(0, 4), x.house(0, 6)), -5, 5);
    x.run(1);
    due("the overdraft is used up", x.house(0, 7), 2);
  }

  /** "1: it was not connected": whatever else holds */
  private static void reason1() {
    MeterPool x = new MeterPool();
    x.addHouse(1, 9);
    x.addHouse(1, 30);
    x.addHouse(1, 9);
    x.buy(1, 100);
    x.buy(2, 100);
    x.setHouse(0, 3, 0);
    x.setHouse(2, 3, 0);
    x.run(1);
    due("feeder 1 is shed", x.feeder(1, 4), 1);
    row("reasons", ofAll(x, 7), 1, 3, 1);
    x.setHouse(2, 3, 1);
    due("it was not", x.house(2, 7), 1);
    supply(x, "0");
    x.run(1);
    row("reasons then", ofAll(x, 7), 1, 3, 3);
    x.setHouse(1, 3, 0);
    x.run(1);
    row("no more what they were", ofAll(x, 7), 1, 1, 3);
  }

  /** "2: it could draw less than its demand .. because of its credit (also if it then got that, or less, or its ..)" */
  private static void reason2() {
    MeterPool x = new MeterPool();
    x.addHouse(0, 10);
    x.buy(0, 4);
    x.run(1);
    row("it got that", ints(x.house(0, 6), x.house(0, 7)), 9, 2);
    MeterPool y = new MeterPool();
    supply(y, "7");
    y.addHouse(0, 10);
    y.buy(0, 4);
    y.run(1);
    row("it got less", ints(y.house(0, 6), y.house(0, 7)), 7, 2);
    MeterPool z = new MeterPool();
    supply(z, "4");
    z.addHouse(1, 10);
    z.addHouse(0, 10);
    z.buy(0, 4);
    z.buy(1, 4);
    z.run(1);
    row("its feeder was shed", ints(z.house(0, 6), z.house(0, 7), z.feeder(1, 4)), 0, 2, 1);
    row("it got nothing", ints(z.house(1, 6), z.house(1, 7)), 0, 2);
    z.buy(0, 1);
    z.buy(1, 1);
    z.run(1);
    row("feeder 2's turn was first", ints(z.feeder(1, 4), z.feeder(2, 4)), 1, 0);
    row("with just enough credit", ofAll(z, 7), 3, 4);
    beginningOfTheHour();
  }

  /** The same "at the beginning of the hour": what it gets leaves less than its demand, and that is another hour's */
  private static void beginningOfTheHour() {
    MeterPool x = new MeterPool();
    supply(x, "6");
    x.addHouse(0, 10);
    x.buy(0, 5);
    x.run(1);
    row("a part of what it could draw", ints(x.house(0, 6), x.house(0, 7), x.house(0, 5)), 6, 4, 4);
    x.run(1);
    row("an hour later", ints(x.house(0, 6), x.house(0, 7), x.house(0, 5)), 4, 2, 0);
    MeterPool y = new MeterPool();
    supply(y, "10");
    y.addHouse(0, 10);
    y.buy(0, 5);
    y.run(1);
    row("all that it could draw", ints(y.house(0, 6), y.house(0, 7), y.house(0, 5)), 10, 0, 0);
  }

  /** "3: its feeder was shed": that of another house was not */
  private static void reason3() {
    MeterPool x = rich(1, 11, 2, 11, 1, 0, 0, 5);
    x.run(1);
    row("feeder 1", ofAll(x, 7), 3, 0, 0, 0);
    x.run(1);
    row("feeder 2", ofAll(x, 7), 0, 3, 0, 0);
    x.setHouse(3, 1, 10);
    x.run(1);
    row("both", ofAll(x, 7), 3, 3, 0, 0);
  }

  /** "4: it got less for want of energy": a part, or nothing */
  private static void reason4() {
    MeterPool x = rich(0, 12, 0, 9, 0, 9, 1, 0);
    x.run(1);
    row("got", ofAll(x, 6), 12, 8, 0, 0);
    row("a part, and nothing", ofAll(x, 7), 0, 4, 4, 0);
    x.setHouse(1, 1, 8);
    x.run(1);
    row("got then", ofAll(x, 6), 12, 8, 0, 0);
    row("the whole, and nothing", ofAll(x, 7), 0, 0, 4, 0);
  }

  /** "The supply of all hours so far is the sum of what was used .. lost .. spilled .. discarded .., and the charge" */
  private static void accountsAddUp() {
    MeterPool x = rich(0, 9, 1, 4, 2, 11);
    due("at first", x.account(0), 0);
    supply(x, "70,0,31,5*3,44,90");
    for (int i = 0; i < 25; i++) {
      x.setBattery(i % 2, i % 3, i % 3 > 0 ? 50 + i : i % 4 < 2 ? 300 : 20);
      x.run(1 + i % 4);
      due("sum " + i, x.account(0), x.account(1) + x.account(2) + x.account(3) + x.account(4) + x.account(5));
      due("charges " + i, x.account(5), x.battery(0, 3) + x.battery(1, 3));
    }
    check.holds("each of them was there", x.account(1) > 0 && x.account(2) > 0 && x.account(3) > 0
        && x.account(4) > 0 && x.account(5) > 0);
  }

  /** "An object is used for at most 512 calls": the greatest sums, and the 512th call */
  private static void greatestAmounts() {
    MeterPool x = new MeterPool();
    String text = "500*48";
    for (int i = 0; i < text.length(); i++) {
      x.type(text.charAt(i));
    }
    x.load();
    for (int call = 8; call < 508; call++) {
      x.run(100);
    }
    due("hours", x.count(2), 50000);
    due("supply", x.account(0), 25000000);
    due("spilled", x.account(3), 25000000 - 100000);
    due("lost", x.account(2), 100000);
    due("the 512th call", x.run(1), 0);
    MeterPool y = new MeterPool();
    y.addHouse(0, 50);
    for (int call = 2; call < 511; call++) {
      y.buy(0, 500);
    }
    due("tokens", y.account(6), 509 * 500);
    due("the 512th call again", y.house(0, 4), 509 * 500);
  }
}
