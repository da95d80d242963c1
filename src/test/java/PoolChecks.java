import java.util.Arrays;
import java.util.function.Supplier;
import java.util.function.ToLongFunction;

/** What the tests share: pools in given conditions, rows of what a pool tells, and all that a pool holds. */
abstract class PoolChecks {
  static final int NONE = MeterPool.NONE, BAD = MeterPool.BAD, STATE = MeterPool.STATE, FULL = MeterPool.FULL;
  static final int LOW = Integer.MIN_VALUE, HIGH = Integer.MAX_VALUE;

  static final Check check = new Check();

  static void due(String call, long got, long want) {
    check.due(call, got, want);
  }

  static void row(String name, int[] got, int... want) {
    due(name + " length", got.length, want.length);
    for (int i = 0; i < got.length && i < want.length; i++) {
      due(name + " at " + i, got[i], want[i]);
    }
  }

  static int[] ints(int... values) {
    return values;
  }

  /** Texts are typed as a whole here. */
  static void typeAll(MeterPool x, String text) {
    for (int i = 0; i < text.length(); i++) {
      due("type " + i + " of " + text, x.type(text.charAt(i)), i + 1);
    }
  }

  static void supply(MeterPool x, String text) {
    typeAll(x, text);
    check.holds("load of " + text, x.load() > 0);
  }

  /** Houses with a lot of credit: pairs of a feeder and a demand. */
  static MeterPool rich(int... feedersAndDemands) {
    MeterPool x = new MeterPool();
    for (int i = 0; i < feedersAndDemands.length; i += 2) {
      due("addHouse", x.addHouse(feedersAndDemands[i], feedersAndDemands[i + 1]), i / 2);
      due("buy", x.buy(i / 2, 500), 500);
    }
    return x;
  }

  static int[] counts(MeterPool x) {
    int[] row = new int[8];
    for (int i = 0; i < row.length; i++) {
      row[i] = x.count(i);
    }
    return row;
  }

  static int[] accounts(MeterPool x) {
    int[] row = new int[8];
    for (int i = 0; i < row.length; i++) {
      row[i] = x.account(i);
    }
    return row;
  }

  static int[] houseRow(MeterPool x, int house) {
    int[] row = new int[11];
    for (int i = 0; i < row.length; i++) {
      row[i] = x.house(house, i);
    }
    return row;
  }

  static int[] loanRow(MeterPool x, int loan) {
    return ints(x.loan(loan, 0), x.loan(loan, 1), x.loan(loan, 2));
  }

  static int[] batteryRow(MeterPool x, int battery) {
    int[] row = new int[5];
    for (int i = 0; i < row.length; i++) {
      row[i] = x.battery(battery, i);
    }
    return row;
  }

  static int[] feederRow(MeterPool x, int feeder) {
    int[] row = new int[5];
    for (int i = 0; i < row.length; i++) {
      row[i] = x.feeder(feeder, i);
    }
    return row;
  }

  /** The property of all houses. */
  static int[] ofAll(MeterPool x, int what) {
    int[] row = new int[x.count(0)];
    for (int i = 0; i < row.length; i++) {
      row[i] = x.house(i, what);
    }
    return row;
  }

  /** The numbers of the list of the supply. */
  static int[] listOf(MeterPool x) {
    int[] row = new int[x.count(3)];
    for (int i = 0; i < row.length; i++) {
      row[i] = x.supply(i);
    }
    return row;
  }

  /** Two houses with something in every account, feeder 1 shed, loans both ways, a full history, image 1, a fault. */
  static MeterPool village() {
    MeterPool x = new MeterPool();
    x.setBattery(0, 0, 40);
    x.setBattery(1, 0, 30);
    x.setBattery(0, 1, 2);
    x.setBattery(1, 1, 2);
    x.addHouse(1, 6);
    x.addHouse(2, 9);
    x.buy(0, 60);
    x.buy(1, 45);
    x.lend(0, 1, 7);
    x.setHouse(1, 2, 30);
    x.buy(1, 10);
    x.run(2);
    x.setBattery(0, 0, 1);
    x.keep(1);
    x.setHouse(0, 1, 12);
    x.setHouse(1, 1, 19);
    x.run(1);
    x.lend(1, 0, 5);
    x.set(3, 20);
    x.set(2, 60);
    typeAll(x, "12*3,");
    return x;
  }

  /** As many houses, loans, numbers, characters and states as there can be, and both images. */
  static MeterPool full() {
    MeterPool x = new MeterPool();
    x.setBattery(0, 0, 500);
    x.setBattery(1, 0, 500);
    supply(x, "90*40,500,0*2,77*5");
    x.keep(0);
    for (int i = 0; i < 10; i++) {
      x.addHouse(i % 3, 3 * i);
      x.buy(i, 30 + i);
    }
    for (int i = 0; i < 12; i++) {
      due("loan", x.lend(i % 4, 4 + i % 6, 2 + i), i + 1);
    }
    x.run(3);
    x.keep(1);
    x.setHouse(9, 2, 1000);
    for (int i = 0; i < 60; i++) {
      x.type("1,".charAt(i % 2));
    }
    return x;
  }

  /** All that a pool holds, also what only an undo or a return to an image brings to light; it is used up by that. */
  static long[] allOf(MeterPool x) {
    long[] told = new long[25];
    int at = 0;
    told[at++] = x.digest();
    for (int i = 0; i < 9; i++) {
      told[at++] = x.undo();
      told[at++] = x.digest();
    }
    for (int image = 0; image < 2; image++) {
      told[at++] = x.back(image);
      told[at++] = x.digest();
    }
    told[at++] = x.clear();
    told[at] = x.digest();
    return told;
  }

  /** The call gives the answer and leaves everything as it was in a pool that is made so. */
  static void leaves(String call, Supplier<MeterPool> made, ToLongFunction<MeterPool> action, long answer) {
    MeterPool x = made.get();
    due(call, action.applyAsLong(x), answer);
    same(call + " changes nothing", allOf(x), allOf(made.get()));
  }

  static void same(String name, long[] got, long[] want) {
    for (int i = 0; i < want.length; i++) {
      due(name + " at " + i, got[i], want[i]);
    }
  }

  /** Numbers that lie outside of the range, also such as are inside when they are cut to fewer bits. */
  static int[] outside(int least, int most) {
    int[] tried = {least - 1, most + 1, LOW, HIGH, LOW + most, least + 256, least + 65536, most + (1 << 30), ~most, NONE};
    int[] kept = new int[tried.length];
    int size = 0;
    for (int value : tried) {
      if (value < least || value > most) {
        kept[size++] = value;
      }
    }
    return Arrays.copyOf(kept, size);
  }
}
