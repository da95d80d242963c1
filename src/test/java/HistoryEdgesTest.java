import java.util.ArrayList;
import java.util.List;
import java.util.function.ToLongFunction;

/**
 * The sentences of "History and images" and of promises 16 to 18 that name a boundary case, each with a test of its own;
 * the sentence stands above it. What is refused stands in RefusalsTest.
 */
public final class HistoryEdgesTest extends PoolChecks {
  public static void main(String[] args) {
    markedCalls();
    otherCalls();
    refusedCalls();
    eachChangeRecordsTheStateBeforeIt();
    atMost8States();
    oldestIsDropped();
    oldestIsDroppedByEachChange();
    manyTimesRound();
    nothingToTakeBack();
    undoIsNoChange();
    undoThenChange();
    everythingComesBack();
    statesAreApart();
    imagesAreNoState();
    historyIsNoState();
    imageTakesTheWholeState();
    inPlaceOfWhatItKept();
    twoImages();
    imageOfNothing();
    hourOfTheState();
    keepIsNoChange();
    imageStays();
    backIsAChange();
    backWithAFullHistory();
    backToTheSameState();
    check.end();
  }

  /** All that is told of the state, without the numbers of states and images, and the text. */
  private static long stateOf(MeterPool x) {
    long hash = 7;
    int[] totals = counts(x);
    totals[5] = 0;
    totals[6] = 0;
    hash = mixed(hash, totals);
    hash = mixed(hash, accounts(x));
    hash = mixed(hash, ints(x.setting(0), x.setting(1), x.setting(2), x.setting(3)));
    for (int house = 0; house < totals[0]; house++) {
      hash = mixed(hash, houseRow(x, house));
    }
    for (int loan = 0; loan < totals[1]; loan++) {
      hash = mixed(hash, loanRow(x, loan));
    }
    hash = mixed(mixed(hash, batteryRow(x, 0)), batteryRow(x, 1));
    for (int feeder = 0; feeder < 3; feeder++) {
      hash = mixed(hash, feederRow(x, feeder));
    }
    return mixed(hash, listOf(x));
  }

  private static long mixed(long start, int... values) {
    long hash = start;
    for (int value : values) {
      hash = hash * 1000003L + value;
    }
    return hash;
  }

  /** Each call that is marked as a change, possible in a village with a whole text. */
  private static List<ToLongFunction<MeterPool>> changes() {
    return List.of(x -> x.addHouse(1, 17), x -> x.setHouse(1, 0, 0), x -> x.setHouse(1, 1, 33), x -> x.setHouse(1, 2, 7),
        x -> x.setHouse(1, 3, 0), x -> x.removeHouse(2), x -> x.buy(1, 90), x -> x.lend(1, 0, 1), x -> x.remit(1),
        x -> x.net(), x -> x.set(0, 9), x -> x.set(1, 9), x -> x.set(2, 9), x -> x.set(3, 9),
        x -> x.setBattery(0, 0, 3), x -> x.setBattery(1, 1, 99), x -> x.setBattery(0, 2, 77), x -> x.run(1),
        x -> x.run(100), x -> x.load(), x -> x.back(1));
  }

  /** The village with a third house, loans both ways, a list in the text, and 6 states. */
  private static MeterPool changeable() {
    MeterPool x = village();
    x.addHouse(0, 2);
    x.clear();
    typeAll(x, "4*5,6");
    for (int i = 0; i < 4; i++) {
      x.undo();
    }
    x.addHouse(2, 4);
    x.lend(1, 0, 2);
    due("states", x.count(5), 6);
    due("feeder 1 was shed", x.feeder(1, 4), 1);
    for (int what = 0; what < 8; what++) {
      check.holds("something in account " + what, x.account(what) > 0);
    }
    return x;
  }

  /** "A change is a call that is marked so and returns no error.": each of them records one state */
  private static void markedCalls() {
    List<ToLongFunction<MeterPool>> changes = changes();
    for (int i = 0; i < changes.size(); i++) {
      MeterPool x = changeable();
      int states = x.count(5);
      check.holds("change " + i + " is possible", changes.get(i).applyAsLong(x) > NONE);
      due("states after change " + i, x.count(5), states + 1);
    }
  }

  /** The same: a call that is not marked records none */
  private static void otherCalls() {
    MeterPool x = village();
    x.undo();
    x.undo();
    int states = x.count(5);
    x.type('4');
    x.fault();
    x.clear();
    x.keep(0);
    x.keep(1);
    x.house(0, 4);
    x.loan(0, 2);
    x.battery(0, 3);
    x.feeder(1, 2);
    x.account(1);
    x.supply(5);
    x.setting(0);
    x.ifRun(100, 0);
    x.darkIn(0);
    x.tokenFor(0, 48);
    x.met();
    x.digest();
    due("states", x.count(5), states);
  }

  /** The same: a call that returns an error records none, and drops none */
  private static void refusedCalls() {
    MeterPool x = new MeterPool();
    for (int demand = 0; demand < 8; demand++) {
      x.addHouse(0, demand);
    }
    for (int i = 0; i < 3; i++) {
      x.addHouse(0, 51);
      x.addHouse(3, 5);
      x.setHouse(0, 1, 51);
      x.removeHouse(8);
      x.buy(0, 0);
      x.lend(0, 1, 1);
      x.lend(0, 1, 0);
      x.remit(0);
      x.set(0, 51);
      x.setBattery(0, 2, 49);
      x.run(0);
      x.load();
      x.back(0);
      x.back(2);
    }
    due("states", x.count(5), 8);
    for (int left = 7; left >= 0; left--) {
      due("undo", x.undo(), left);
      due("houses", x.count(0), left);
    }
  }

  /** "each change records the state before it" */
  private static void eachChangeRecordsTheStateBeforeIt() {
    List<ToLongFunction<MeterPool>> changes = changes();
    for (int i = 0; i < changes.size(); i++) {
      MeterPool x = changeable();
      long before = stateOf(x);
      int states = x.count(5);
      changes.get(i).applyAsLong(x);
      due("undo of change " + i, x.undo(), states);
      due("state before change " + i, stateOf(x), before);
    }
  }

  /** "A history of at most 8 states is kept" */
  private static void atMost8States() {
    MeterPool x = new MeterPool();
    for (int i = 1; i <= 30; i++) {
      x.set(0, i);
      due("states after " + i, x.count(5), Math.min(i, 8));
    }
  }

  /** "when one more is recorded, the oldest one is dropped" */
  private static void oldestIsDropped() {
    for (int changes = 1; changes <= 20; changes++) {
      MeterPool x = new MeterPool();
      x.set(0, 50);
      for (int i = 1; i <= changes; i++) {
        x.set(0, i);
      }
      int states = Math.min(changes + 1, 8);
      for (int left = states - 1; left >= 0; left--) {
        due("undo", x.undo(), left);
        int value = changes - (states - left);
        due("value with " + left + " left of " + changes, x.setting(0), value > 0 ? value : value == 0 ? 50 : 5);
      }
      due("no more", x.undo(), STATE);
      due("states", x.count(5), 0);
    }
  }

  /** The same, whichever change the ninth one is */
  private static void oldestIsDroppedByEachChange() {
    List<ToLongFunction<MeterPool>> changes = changes();
    for (int i = 0; i < changes.size(); i++) {
      MeterPool x = changeable();
      for (int value = 20; value < 30; value++) {
        x.set(0, value);
      }
      changes.get(i).applyAsLong(x);
      due("states after change " + i, x.count(5), 8);
      due("undo of change " + i, x.undo(), 7);
      for (int left = 6; left >= 0; left--) {
        due("the overdraft before change " + i, x.setting(0), left + 23);
        due("undo", x.undo(), left);
      }
      due("the last state before change " + i, x.setting(0), 22);
      due("no more than that", x.undo(), STATE);
    }
  }

  /** The same, many times round: changes and undos by turns, against a list of the states */
  private static void manyTimesRound() {
    MeterPool x = new MeterPool();
    List<Integer> states = new ArrayList<>();
    int now = 5;
    for (int i = 0; i < 160; i++) {
      // More changes than undos at first, then more undos than changes.
      boolean undone = i % 40 < 25 ? i % 5 == 4 : i % 5 != 4;
      if (undone) {
        int left = states.isEmpty() ? STATE : states.size() - 1;
        due("undo " + i, x.undo(), left);
        now = states.isEmpty() ? now : states.remove(left);
      } else {
        states.add(now);
        if (states.size() > 8) {
          states.remove(0);
        }
        due("set " + i, x.set(0, i % 51), now);
        now = i % 51;
      }
      due("states " + i, x.count(5), states.size());
      due("value " + i, x.setting(0), now);
    }
  }

  /** "Returns how many states are left in the history; STATE if there is none." */
  private static void nothingToTakeBack() {
    MeterPool x = new MeterPool();
    due("new", x.undo(), STATE);
    due("again", x.undo(), STATE);
    x.addHouse(0, 1);
    due("one", x.undo(), 0);
    due("none", x.undo(), STATE);
    due("states", x.count(5), 0);
    due("houses", x.count(0), 0);
    x.addHouse(0, 2);
    due("a state again", x.count(5), 1);
  }

  /** "undo" is not marked as a change: what it takes back is gone */
  private static void undoIsNoChange() {
    MeterPool x = new MeterPool();
    x.set(0, 1);
    x.set(0, 2);
    due("the latest", x.undo(), 1);
    due("value", x.setting(0), 1);
    due("the one before", x.undo(), 0);
    due("value then", x.setting(0), 5);
    due("no way on", x.undo(), STATE);
  }

  /** "Takes back the latest change that is recorded.": a later one takes the place of what was taken back */
  private static void undoThenChange() {
    MeterPool x = new MeterPool();
    for (int i = 1; i <= 12; i++) {
      x.set(0, i);
    }
    x.undo();
    x.undo();
    x.undo();
    due("value", x.setting(0), 9);
    x.set(0, 40);
    x.set(0, 41);
    due("states", x.count(5), 7);
    int[] values = {40, 9, 8, 7, 6, 5, 4};
    for (int i = 0; i < values.length; i++) {
      due("undo", x.undo(), 6 - i);
      due("value " + i, x.setting(0), values[i]);
    }
    due("the end", x.undo(), STATE);
  }

  /** "The state consists of everything but the text, the images and the history." */
  private static void everythingComesBack() {
    MeterPool x = village();
    long before = stateOf(x);
    x.setHouse(0, 0, 2);
    x.setHouse(0, 1, 50);
    x.setHouse(0, 2, 1000);
    x.setHouse(1, 3, 0);
    x.setBattery(0, 0, 0);
    x.run(100);
    x.buy(0, 500);
    x.net();
    check.holds("another state", stateOf(x) != before);
    for (int i = 0; i < 8; i++) {
      x.undo();
    }
    due("all is back", stateOf(x), before);
    MeterPool y = full();
    y.remit(3);
    y.back(0);
    y.undo();
    y.undo();
    due("all is back in the full one", stateOf(y), stateOf(full()));
  }

  /** The same: what is changed after an undo does not reach the states that are left */
  private static void statesAreApart() {
    MeterPool x = changeable();
    int[] first = someOf(x);
    x.run(3);
    int[] second = someOf(x);
    x.buy(0, 50);
    for (int i = 0; i < 3; i++) {
      due("undo", x.undo() > 0 ? 1 : 0, 1);
      row("second", someOf(x), second);
      x.run(50);
    }
    x.undo();
    x.undo();
    row("first", someOf(x), first);
  }

  private static int[] someOf(MeterPool x) {
    return ints(x.count(2), x.count(4), x.house(0, 4), x.house(1, 8), x.account(0), x.account(6), x.feeder(2, 3));
  }

  /** "everything but .. the images": an undo leaves them */
  private static void imagesAreNoState() {
    MeterPool x = new MeterPool();
    x.run(1);
    x.keep(0);
    x.run(1);
    x.keep(0);
    x.keep(1);
    x.undo();
    x.undo();
    due("both are there", x.count(6), 3);
    due("hour", x.count(2), 0);
    due("the latest one kept", x.back(0), 2);
    MeterPool y = new MeterPool();
    y.keep(1);
    y.run(1);
    y.keep(0);
    y.back(1);
    due("an image has no images", y.count(6), 3);
  }

  /** "everything but .. the history": neither an undo nor an image brings it back */
  private static void historyIsNoState() {
    MeterPool x = new MeterPool();
    x.keep(0);
    for (int i = 1; i <= 5; i++) {
      x.set(0, i);
    }
    x.keep(1);
    x.undo();
    x.undo();
    x.undo();
    due("back to five changes", x.back(1), 0);
    due("three states", x.count(5), 3);
    due("back to none", x.back(0), 0);
    due("four states", x.count(5), 4);
    due("value", x.setting(0), 5);
    due("undo", x.undo(), 3);
    due("value of the other image", x.setting(0), 5);
    due("undo again", x.undo(), 2);
    due("value before", x.setting(0), 2);
  }

  /** "Keeps the state in an image": the whole of it, whatever changes then */
  private static void imageTakesTheWholeState() {
    MeterPool x = village();
    long kept = stateOf(x);
    x.keep(0);
    x.setHouse(0, 0, 2);
    x.setHouse(1, 1, 50);
    x.setHouse(1, 2, 1000);
    x.setHouse(0, 3, 0);
    x.setBattery(0, 0, 0);
    x.setBattery(1, 1, 1);
    x.setBattery(1, 2, 51);
    for (int setting = 0; setting < 4; setting++) {
      x.set(setting, 33);
    }
    x.addHouse(2, 50);
    x.clear();
    supply(x, "1,2,3");
    x.run(7);
    x.buy(1, 500);
    x.remit(0);
    x.net();
    check.holds("another state", stateOf(x) != kept);
    x.back(0);
    due("as it was", stateOf(x), kept);
    x.undo();
    check.holds("the other state again", stateOf(x) != kept);
  }

  /** "in place of what it kept" */
  private static void inPlaceOfWhatItKept() {
    MeterPool x = full();
    x.keep(0);
    x.back(0);
    due("ten houses", x.count(0), 10);
    MeterPool y = new MeterPool();
    y.keep(0);
    y.addHouse(1, 5);
    y.run(1);
    due("the first", y.keep(0), 1);
    y.run(1);
    due("the second", y.keep(0), 2);
    y.run(1);
    due("back to the second", y.back(0), 2);
    row("its house", ints(y.count(0), y.count(2)), 1, 2);
  }

  /** "There are 2 images, which keep a state each.": "image: 0 or 1" */
  private static void twoImages() {
    MeterPool x = new MeterPool();
    due("-1", x.keep(-1), BAD);
    due("2", x.keep(2), BAD);
    due("back -1", x.back(-1), BAD);
    due("back 2", x.back(2), BAD);
    x.run(1);
    due("0", x.keep(0), 1);
    x.run(1);
    due("1", x.keep(1), 2);
    x.run(1);
    due("back 0", x.back(0), 1);
    due("back 1", x.back(1), 2);
    due("back 0 again", x.back(0), 1);
    x.run(4);
    x.keep(1);
    due("1 does not touch 0", x.back(0), 1);
    due("1 anew", x.back(1), 5);
  }

  /** "STATE if it keeps nothing": of the two, that one alone; and an empty pool is something */
  private static void imageOfNothing() {
    MeterPool x = new MeterPool();
    due("0", x.back(0), STATE);
    due("1", x.back(1), STATE);
    x.keep(0);
    due("1 still", x.back(1), STATE);
    x.addHouse(0, 5);
    due("an empty pool", x.back(0), 0);
    due("no house", x.count(0), 0);
    MeterPool y = new MeterPool();
    y.keep(1);
    due("0 still", y.back(0), STATE);
    due("1 keeps it", y.back(1), 0);
    y.undo();
    due("0 after an undo", y.back(0), STATE);
  }

  /** "Returns the hour" and "Returns the hour then": of the image, not of what was */
  private static void hourOfTheState() {
    MeterPool x = new MeterPool();
    due("hour 0", x.keep(0), 0);
    x.run(100);
    due("hour 100", x.keep(1), 100);
    due("back to 0", x.back(0), 0);
    due("told", x.count(2), 0);
    due("back to 100", x.back(1), 100);
    due("told then", x.count(2), 100);
  }

  /** "keep" is not marked as a change */
  private static void keepIsNoChange() {
    MeterPool x = new MeterPool();
    x.set(0, 1);
    x.keep(0);
    due("states", x.count(5), 1);
    due("undo", x.undo(), 0);
    due("value", x.setting(0), 5);
  }

  /** "the image stays" */
  private static void imageStays() {
    MeterPool x = village();
    x.keep(0);
    long kept = stateOf(x);
    for (int i = 0; i < 3; i++) {
      x.run(2 + i);
      x.setHouse(0, 1, 3 + i);
      x.back(0);
      due("as it was, time " + i, stateOf(x), kept);
    }
    due("both are told", x.count(6), 3);
  }

  /** "This is a change." of back: undo leads to what was before */
  private static void backIsAChange() {
    MeterPool x = new MeterPool();
    x.keep(0);
    x.addHouse(0, 5);
    x.run(2);
    long before = stateOf(x);
    due("back", x.back(0), 0);
    due("states", x.count(5), 3);
    due("undo", x.undo(), 2);
    due("before", stateOf(x), before);
  }

  /** The same when there are 8 states */
  private static void backWithAFullHistory() {
    MeterPool x = new MeterPool();
    x.keep(1);
    for (int i = 1; i <= 8; i++) {
      x.set(0, i);
    }
    due("back", x.back(1), 0);
    due("states", x.count(5), 8);
    due("value", x.setting(0), 5);
    for (int left = 7; left >= 0; left--) {
      due("undo", x.undo(), left);
      due("value with " + left, x.setting(0), left + 1);
    }
    due("the first one was dropped", x.undo(), STATE);
  }

  /** The same when nothing has changed since */
  private static void backToTheSameState() {
    MeterPool x = new MeterPool();
    x.keep(0);
    due("back", x.back(0), 0);
    due("a state", x.count(5), 1);
    due("back again", x.back(0), 0);
    due("two states", x.count(5), 2);
    due("undo", x.undo(), 1);
  }
}
