import java.util.List;
import java.util.function.Supplier;

/**
 * "Errors. BAD: an argument is out of range, or names something that does not exist. STATE: the call is not possible at
 * present, as described. FULL: a limit would be exceeded. If several of them apply to a call, the first one in this
 * order is returned. A call that returns an error changes nothing. NONE means that there is no such thing; it is
 * returned only if no error applies."
 *
 * Each refused call is made on an empty, an ordinary and a full pool; all that the pool holds, its history and its
 * images too, is then held against a pool in which the call was not made. So are the calls that only tell something.
 */
public final class RefusalsTest extends PoolChecks {
  private static final List<Supplier<MeterPool>> POOLS = List.of(MeterPool::new, PoolChecks::village, PoolChecks::full);

  public static void main(String[] args) {
    for (int i = 0; i < POOLS.size(); i++) {
      Supplier<MeterPool> made = POOLS.get(i);
      badHouseCalls(made);
      badLoanCalls(made);
      badPlantCalls(made);
      badTextAndImageCalls(made);
      badTellingCalls(made);
      badAheadCalls(made);
      tellingChangesNothing(made);
    }
    stateChangesNothing();
    fullChangesNothing();
    badBeforeState();
    badBeforeFull();
    stateBeforeFull();
    noneOnlyWithoutAnError();
    refusalsOneAfterTheOther();
    check.end();
  }

  /** Numbers of houses that there are not. */
  private static int[] noHouse(Supplier<MeterPool> made) {
    return outside(0, made.get().count(0) - 1);
  }

  private static int[] noLoan(Supplier<MeterPool> made) {
    return outside(0, made.get().count(1) - 1);
  }

  /** "BAD: an argument is out of range, or names something that does not exist"; a call of a house. */
  private static void badHouseCalls(Supplier<MeterPool> made) {
    for (int feeder : outside(0, 2)) {
      leaves("addHouse, feeder " + feeder, made, x -> x.addHouse(feeder, 5), BAD);
    }
    for (int demand : outside(0, 50)) {
      leaves("addHouse, demand " + demand, made, x -> x.addHouse(1, demand), BAD);
    }
    int[] most = {2, 50, 1000, 1};
    for (int house : noHouse(made)) {
      for (int what = 0; what < 4; what++) {
        int property = what;
        leaves("setHouse, house " + house, made, x -> x.setHouse(house, property, 1), BAD);
      }
      leaves("removeHouse, house " + house, made, x -> x.removeHouse(house), BAD);
      leaves("buy, house " + house, made, x -> x.buy(house, 5), BAD);
    }
    for (int what : outside(0, 3)) {
      leaves("setHouse, what " + what, made, x -> x.setHouse(0, what, 1), BAD);
    }
    for (int what = 0; what < 4; what++) {
      int property = what;
      for (int value : outside(0, most[what])) {
        leaves("setHouse, what " + what + ", value " + value, made, x -> x.setHouse(1, property, value), BAD);
      }
    }
    for (int units : outside(1, 500)) {
      leaves("buy, units " + units, made, x -> x.buy(1, units), BAD);
    }
  }

  /** The same of a call of a loan. */
  private static void badLoanCalls(Supplier<MeterPool> made) {
    for (int house : noHouse(made)) {
      leaves("lend, lender " + house, made, x -> x.lend(house, 1, 1), BAD);
      leaves("lend, borrower " + house, made, x -> x.lend(1, house, 1), BAD);
      leaves("lend, both " + house, made, x -> x.lend(house, house, 1), BAD);
    }
    for (int units : outside(1, 200)) {
      leaves("lend, units " + units, made, x -> x.lend(1, 0, units), BAD);
      leaves("lend to itself, units " + units, made, x -> x.lend(0, 0, units), BAD);
    }
    for (int house = 0; house < 10; house++) {
      int both = house;
      leaves("lend to itself " + house, made, x -> x.lend(both, both, 1), BAD);
    }
    for (int loan : noLoan(made)) {
      leaves("remit, loan " + loan, made, x -> x.remit(loan), BAD);
    }
  }

  /** The same of the settings, the batteries and the hours. */
  private static void badPlantCalls(Supplier<MeterPool> made) {
    for (int setting : outside(0, 3)) {
      leaves("set, setting " + setting, made, x -> x.set(setting, 7), BAD);
    }
    for (int value : outside(0, 50)) {
      leaves("set 0, value " + value, made, x -> x.set(0, value), BAD);
    }
    for (int what = 1; what < 4; what++) {
      int setting = what;
      for (int value : outside(0, 100)) {
        leaves("set " + setting + ", value " + value, made, x -> x.set(setting, value), BAD);
      }
    }
    for (int battery : outside(0, 1)) {
      leaves("setBattery, battery " + battery, made, x -> x.setBattery(battery, 0, 60), BAD);
      leaves("setBattery, battery and value " + battery, made, x -> x.setBattery(battery, 2, 0), BAD);
    }
    for (int what : outside(0, 2)) {
      leaves("setBattery, what " + what, made, x -> x.setBattery(0, what, 60), BAD);
    }
    int[] least = {0, 0, 50}, most = {500, 100, 100};
    for (int what = 0; what < 3; what++) {
      int property = what;
      for (int value : outside(least[what], most[what])) {
        leaves("setBattery, what " + what + ", value " + value, made, x -> x.setBattery(1, property, value), BAD);
      }
    }
    for (int hours : outside(1, 100)) {
      leaves("run, hours " + hours, made, x -> x.run(hours), BAD);
    }
  }

  /** The same of the text and the images. */
  private static void badTextAndImageCalls(Supplier<MeterPool> made) {
    for (int code : outside(33, 126)) {
      leaves("type, code " + code, made, x -> x.type(code), BAD);
    }
    for (int image : outside(0, 1)) {
      leaves("keep, image " + image, made, x -> x.keep(image), BAD);
      leaves("back, image " + image, made, x -> x.back(image), BAD);
    }
  }

  /** The same of the calls that tell something. */
  private static void badTellingCalls(Supplier<MeterPool> made) {
    for (int house : noHouse(made)) {
      for (int what = 0; what <= 10; what++) {
        int property = what;
        leaves("house " + house, made, x -> x.house(house, property), BAD);
      }
    }
    for (int what : outside(0, 10)) {
      leaves("house, what " + what, made, x -> x.house(0, what), BAD);
    }
    for (int loan : noLoan(made)) {
      for (int what = 0; what <= 2; what++) {
        int property = what;
        leaves("loan " + loan, made, x -> x.loan(loan, property), BAD);
      }
    }
    for (int what : outside(0, 2)) {
      leaves("loan, what " + what, made, x -> x.loan(0, what), BAD);
    }
    for (int battery : outside(0, 1)) {
      leaves("battery " + battery, made, x -> x.battery(battery, 3), BAD);
    }
    for (int feeder : outside(0, 2)) {
      leaves("feeder " + feeder, made, x -> x.feeder(feeder, 0), BAD);
    }
    for (int what : outside(0, 4)) {
      leaves("battery, what " + what, made, x -> x.battery(1, what), BAD);
      leaves("feeder, what " + what, made, x -> x.feeder(1, what), BAD);
    }
    for (int what : outside(0, 7)) {
      leaves("account " + what, made, x -> x.account(what), BAD);
      leaves("count " + what, made, x -> x.count(what), BAD);
    }
    for (int hour : ints(-1, LOW, LOW + 48, NONE)) {
      leaves("supply " + hour, made, x -> x.supply(hour), BAD);
    }
    for (int setting : outside(0, 3)) {
      leaves("setting " + setting, made, x -> x.setting(setting), BAD);
    }
  }

  /** The same of the calls that look ahead. */
  private static void badAheadCalls(Supplier<MeterPool> made) {
    for (int hours : outside(1, 100)) {
      leaves("ifRun, hours " + hours, made, x -> x.ifRun(hours, 0), BAD);
    }
    for (int what : outside(0, 4)) {
      leaves("ifRun, what " + what, made, x -> x.ifRun(5, what), BAD);
    }
    for (int house : noHouse(made)) {
      leaves("darkIn " + house, made, x -> x.darkIn(house), BAD);
      leaves("tokenFor, house " + house, made, x -> x.tokenFor(house, 5), BAD);
    }
    for (int hours : outside(1, 48)) {
      leaves("tokenFor, hours " + hours, made, x -> x.tokenFor(1, hours), BAD);
    }
  }

  /** "What is told" and "ahead; nothing changes": these calls leave the pool as it was, whatever they answer. */
  private static void tellingChangesNothing(Supplier<MeterPool> made) {
    MeterPool x = made.get();
    int houses = x.count(0), loans = x.count(1);
    x.fault();
    for (int i = 0; i < 11; i++) {
      x.house(i % Math.max(1, houses), i);
      x.loan(i % Math.max(1, loans), i % 3);
      x.battery(i % 2, i % 5);
      x.feeder(i % 3, i % 5);
      x.account(i % 8);
      x.count(i % 8);
      x.supply(i * i);
      x.setting(i % 4);
      x.ifRun(1 + 9 * i, i % 5);
      x.darkIn(i);
      x.tokenFor(i, 1 + 4 * i);
    }
    x.met();
    x.digest();
    same("after calls that tell", allOf(x), allOf(made.get()));
  }

  /** "STATE: the call is not possible at present, as described." and "A call that returns an error changes nothing." */
  private static void stateChangesNothing() {
    leaves("load of an empty text", MeterPool::new, x -> x.load(), STATE);
    leaves("undo of nothing", MeterPool::new, x -> x.undo(), STATE);
    leaves("back to nothing", MeterPool::new, x -> x.back(0), STATE);
    leaves("back to nothing in 1", MeterPool::new, x -> x.back(1), STATE);
    leaves("load of a fault", PoolChecks::village, x -> x.load(), STATE);
    leaves("removal of a borrower", PoolChecks::village, x -> x.removeHouse(0), STATE);
    leaves("removal of a lender", PoolChecks::village, x -> x.removeHouse(1), STATE);
    leaves("back to nothing beside image 1", PoolChecks::village, x -> x.back(0), STATE);
    leaves("more than its credit", PoolChecks::village, x -> x.lend(0, 1, x.house(0, 4) + 1), STATE);
    leaves("load of 60 characters", PoolChecks::full, x -> x.load(), STATE);
    for (int i = 0; i < 10; i++) {
      int house = i;
      leaves("removal from the full one", PoolChecks::full, x -> x.removeHouse(house), STATE);
    }
  }

  /** "FULL: a limit would be exceeded." and "A call that returns an error changes nothing." */
  private static void fullChangesNothing() {
    leaves("an eleventh house", PoolChecks::full, x -> x.addHouse(0, 0), FULL);
    leaves("an eleventh house of feeder 2", PoolChecks::full, x -> x.addHouse(2, 50), FULL);
    leaves("a thirteenth loan", PoolChecks::full, x -> x.lend(1, 0, 1), FULL);
    leaves("a 61st character", PoolChecks::full, x -> x.type('1'), FULL);
    leaves("a 61st character that is none of a list", PoolChecks::full, x -> x.type('~'), FULL);
  }

  /** "If several of them apply to a call, the first one in this order is returned": BAD, and STATE behind it. */
  private static void badBeforeState() {
    MeterPool x = village();
    due("too many units for both", x.lend(0, 1, 201), BAD);
    due("no such borrower", x.lend(0, 2, x.house(0, 4) + 1), BAD);
    due("itself", x.lend(0, 0, 200), BAD);
    due("the same, possible", x.lend(0, 1, 200), STATE);
    due("an image that is none", x.back(2), BAD);
    due("an image that is none either", x.back(-1), BAD);
    due("an image without a state", x.back(0), STATE);
    due("no house to be removed", x.removeHouse(2), BAD);
  }

  /** The same: BAD, and FULL behind it. */
  private static void badBeforeFull() {
    MeterPool x = full();
    due("no feeder", x.addHouse(3, 5), BAD);
    due("no feeder below", x.addHouse(-1, 5), BAD);
    due("too great a demand", x.addHouse(0, 51), BAD);
    due("too small a demand", x.addHouse(0, -1), BAD);
    due("a house", x.addHouse(0, 50), FULL);
    due("no lender", x.lend(10, 0, 1), BAD);
    due("no borrower", x.lend(0, 10, 1), BAD);
    due("itself", x.lend(1, 1, 1), BAD);
    due("no units", x.lend(1, 0, 0), BAD);
    due("too many units", x.lend(1, 0, 201), BAD);
    due("a loan", x.lend(1, 0, 1), FULL);
    due("no character", x.type(127), BAD);
    due("no character below", x.type(32), BAD);
    due("a character", x.type(33), FULL);
  }

  /** The same: STATE, and FULL behind it. */
  private static void stateBeforeFull() {
    MeterPool x = full();
    int credit = x.house(1, 4);
    check.holds("there is some credit", credit > 0 && credit < 200);
    due("more than its credit", x.lend(1, 0, credit + 1), STATE);
    due("its credit", x.lend(1, 0, credit), FULL);
    x.remit(11);
    due("more than its credit, and room for a loan", x.lend(1, 0, credit + 1), STATE);
    due("its credit, and room for a loan", x.lend(1, 0, credit), 12);
  }

  /** "NONE means that there is no such thing; it is returned only if no error applies." */
  private static void noneOnlyWithoutAnError() {
    MeterPool x = new MeterPool();
    x.addHouse(0, 1);
    x.addHouse(0, 0);
    x.setHouse(0, 3, 0);
    due("no token helps", x.tokenFor(0, 48), NONE);
    due("no token helps, and too many hours", x.tokenFor(0, 49), BAD);
    due("no token helps, and no hour", x.tokenFor(0, 0), BAD);
    due("no token helps, and no house", x.tokenFor(2, 48), BAD);
    due("never dark", x.darkIn(1), NONE);
    due("never dark, and no house", x.darkIn(2), BAD);
    due("never dark, and no house below", x.darkIn(-1), BAD);
  }

  /** Refused calls between all others leave each later answer as it is without them. */
  private static void refusalsOneAfterTheOther() {
    MeterPool x = village(), y = village();
    for (int round = 0; round < 12; round++) {
      x.addHouse(0, 51);
      x.buy(0, 501);
      x.lend(0, 1, 200);
      x.remit(9);
      x.setHouse(0, 2, 1001);
      x.set(0, 51);
      x.setBattery(0, 2, 49);
      x.run(101);
      x.type(127);
      x.load();
      x.keep(2);
      x.back(0);
      x.removeHouse(0);
      due("a change of round " + round, x.setHouse(round % 2, 1, round), y.setHouse(round % 2, 1, round));
      due("an hour of round " + round, x.run(1), y.run(1));
      due("the digest of round " + round, x.digest(), y.digest());
    }
    same("after all rounds", allOf(x), allOf(y));
  }
}
