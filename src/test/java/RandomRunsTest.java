/**
 * Long runs of calls on MeterPool and on Model, answer against answer. The numbers come from a fixed sequence, so every
 * run of the test is the same. What one answer can't show, the digest does.
 */
public final class RandomRunsTest {
  // With the six calls at the end of a run these are the 512 for which an object is used.
  private static final int CALLS = 506;
  private static final String[] NAMES = {"addHouse", "setHouse", "removeHouse", "buy", "lend", "remit", "net", "set",
      "setBattery", "run", "type", "clear", "fault", "load", "undo", "keep", "back", "house", "loan", "battery",
      "feeder", "account", "supply", "count", "setting", "ifRun", "darkIn", "tokenFor", "met", "digest"};
  // How often each call comes, in the same order; the rows tell different ways to use a pool.
  private static final int[][] WEIGHTS = {
    {6, 6, 1, 10, 8, 2, 2, 3, 5, 10, 20, 1, 2, 3, 4, 2, 2, 4, 2, 2, 3, 3, 1, 3, 1, 2, 2, 1, 2, 8},
    {10, 8, 8, 20, 30, 4, 4, 4, 1, 3, 0, 0, 0, 0, 3, 1, 1, 2, 2, 0, 0, 1, 0, 1, 0, 1, 2, 4, 1, 8},
    {3, 3, 0, 12, 4, 1, 1, 4, 12, 25, 6, 0, 0, 3, 2, 1, 1, 2, 0, 2, 3, 2, 1, 1, 0, 3, 3, 2, 2, 8},
    {1, 1, 0, 2, 0, 0, 0, 0, 0, 2, 80, 1, 8, 4, 1, 0, 0, 0, 0, 0, 0, 0, 2, 1, 0, 0, 0, 0, 0, 4},
  };

  private final Check check = new Check();
  private long seed;
  // Whether the least and the greatest number of a range, and those just outside, come more often than usual.
  private boolean atEdges;
  // What is still to be typed of a list that the run means to load.
  private String planned = "";

  public static void main(String[] args) {
    RandomRunsTest test = new RandomRunsTest();
    for (int run = 0; run < 600 && !test.check.anyWrong(); run++) {
      test.oneRun(run);
    }
    for (int run = 0; run < 60000 && !test.check.anyWrong(); run++) {
      test.oneText(run);
    }
    test.check.end();
  }

  private int below(int bound) {
    seed = seed * 6364136223846793005L + 1442695040888963407L;
    return (int) ((seed >>> 33) % bound);
  }

  private void oneRun(int run) {
    seed = 77777L * run + 5;
    planned = "";
    atEdges = run % 3 == 2;
    MeterPool x = new MeterPool();
    Model y = new Model();
    int[] weights = WEIGHTS[run % WEIGHTS.length];
    int houses = atEdges ? 10 : below(4) * 3;
    StringBuilder told = new StringBuilder();
    for (int i = 0; i < CALLS; i++) {
      int call = i < houses ? 0 : pick(weights);
      int[] a = arguments(call, y);
      told.append(NAMES[call]).append('(').append(a[0]).append(", ").append(a[1]).append(", ").append(a[2]).append(") ");
      long got = ofPool(x, call, a), want = ofModel(y, call, a);
      check.due("run " + run + ", call " + i + ", " + NAMES[call], got, want);
      if (check.anyWrong()) {
        System.out.println(told);
        return;
      }
    }
    check.due("run " + run + ", the sum of the accounts", x.account(0),
        x.account(1) + x.account(2) + x.account(3) + x.account(4) + x.account(5));
  }

  private int pick(int[] weights) {
    int all = 0;
    for (int weight : weights) {
      all += weight;
    }
    int at = below(all);
    int call = 0;
    while (at >= weights[call]) {
      at -= weights[call];
      call++;
    }
    return call;
  }

  /** Mostly a number from 0 to most, now and then one just outside or far outside. */
  private int around(int least, int most) {
    switch (below(atEdges ? 12 : 40)) {
      case 0:
        return least - 1;
      case 1:
        return most + 1;
      case 2:
        return new int[] {Integer.MIN_VALUE, Integer.MAX_VALUE, -100, 1001, 65536}[below(5)];
      case 3:
        return least;
      case 4:
        return most;
      default:
        return least + below(Math.max(1, most - least + 1));
    }
  }

  private int aHouse(Model y) {
    return around(0, y.count(0) - 1);
  }

  private int[] arguments(int call, Model y) {
    switch (call) {
      case 0:
        return three(around(0, 2), below(3) == 0 ? around(0, 50) : around(0, 12), 0);
      case 1: {
        int what = around(0, 3);
        int[] most = {2, 50, 1000, 1};
        return three(aHouse(y), what, around(0, what >= 0 && what < 4 ? most[what] : 9));
      }
      case 3:
        return three(aHouse(y), below(2) == 0 ? around(1, 500) : around(1, 60), 0);
      case 4:
        return three(aHouse(y), aHouse(y), below(3) == 0 ? around(1, 200) : around(1, 12));
      case 5:
        return three(around(0, y.count(1) - 1), 0, 0);
      case 7: {
        int setting = around(0, 3);
        return three(setting, around(0, setting == 0 ? 50 : 100), 0);
      }
      case 8: {
        int what = around(0, 2);
        return three(around(0, 1), what, what == 0 ? around(0, below(2) == 0 ? 500 : 40) : around(what == 2 ? 50 : 0, 100));
      }
      case 9:
        return three(below(8) == 0 ? around(1, 100) : around(1, 6), 0, 0);
      case 10:
        return three(nextCode(), 0, 0);
      default:
        return toldArguments(call, y);
    }
  }

  private int[] toldArguments(int call, Model y) {
    switch (call) {
      case 2:
      case 26:
        return three(aHouse(y), 0, 0);
      case 15:
      case 16:
        return three(around(0, 1), 0, 0);
      case 17:
        return three(aHouse(y), around(0, 10), 0);
      case 18:
        return three(around(0, y.count(1) - 1), around(0, 2), 0);
      case 19:
        return three(around(0, 1), around(0, 4), 0);
      case 20:
        return three(around(0, 2), around(0, 4), 0);
      case 21:
      case 23:
        return three(around(0, 7), 0, 0);
      case 22:
        return three(around(0, 200), 0, 0);
      case 24:
        return three(around(0, 3), 0, 0);
      case 25:
        return three(around(1, 100), around(0, 4), 0);
      case 27:
        return three(aHouse(y), below(3) == 0 ? around(1, 48) : around(1, 6), 0);
      default:
        return three(0, 0, 0);
    }
  }

  private static int[] three(int a, int b, int c) {
    return new int[] {a, b, c};
  }

  private int nextCode() {
    if (below(60) == 0) {
      return around(33, 126);
    }
    if (planned.isEmpty()) {
      planned = someList(60) + ",";
    }
    int code = planned.charAt(0);
    planned = planned.substring(1);
    return code;
  }

  /** Nearly a list: its numbers and how often they come lie mostly, but not always, within the limits. */
  private String someList(int most) {
    StringBuilder text = new StringBuilder();
    int items = 1 + below(below(3) == 0 ? 30 : 4);
    for (int i = 0; i < items && text.length() < most; i++) {
      int[] mosts = {9, 60, 500, 520};
      text.append(i == 0 ? "" : ",").append(below(mosts[below(4)] + 1));
      if (below(3) == 0) {
        int[] times = {9, 24, 48, 50};
        text.append('*').append(below(times[below(4)] + 1));
      }
    }
    return text.toString();
  }

  /** A text of up to 60 characters, its fault, whether it loads, and what the list then is. */
  private void oneText(int run) {
    seed = 99991L * run + 3;
    String text = below(4) == 0 ? wildText() : someList(58);
    if (below(3) == 0 && !text.isEmpty()) {
      int at = below(text.length());
      text = text.substring(0, at) + "0123456789,*-".charAt(below(13)) + text.substring(at + below(2));
    }
    MeterPool x = new MeterPool();
    Model y = new Model();
    for (int i = 0; i < text.length() && i < 60; i++) {
      x.type(text.charAt(i));
      y.type(text.charAt(i));
    }
    check.due("fault of " + y.text, x.fault(), y.fault());
    check.due("load of " + text, x.load(), y.load());
    for (int hour = 0; hour < 50; hour++) {
      check.due("supply " + hour + " of " + text, x.supply(hour), y.supply(hour));
    }
  }

  private String wildText() {
    StringBuilder text = new StringBuilder();
    int length = below(12);
    for (int i = 0; i < length; i++) {
      text.append("0123456789,,**".charAt(below(14)));
    }
    return text.toString();
  }

  private static long ofPool(MeterPool x, int call, int[] a) {
    switch (call) {
      case 0: return x.addHouse(a[0], a[1]);
      case 1: return x.setHouse(a[0], a[1], a[2]);
      case 2: return x.removeHouse(a[0]);
      case 3: return x.buy(a[0], a[1]);
      case 4: return x.lend(a[0], a[1], a[2]);
      case 5: return x.remit(a[0]);
      case 6: return x.net();
      case 7: return x.set(a[0], a[1]);
      case 8: return x.setBattery(a[0], a[1], a[2]);
      case 9: return x.run(a[0]);
      case 10: return x.type(a[0]);
      case 11: return x.clear();
      case 12: return x.fault();
      case 13: return x.load();
      case 14: return x.undo();
      case 15: return x.keep(a[0]);
      case 16: return x.back(a[0]);
      case 17: return x.house(a[0], a[1]);
      case 18: return x.loan(a[0], a[1]);
      case 19: return x.battery(a[0], a[1]);
      case 20: return x.feeder(a[0], a[1]);
      case 21: return x.account(a[0]);
      case 22: return x.supply(a[0]);
      case 23: return x.count(a[0]);
      case 24: return x.setting(a[0]);
      case 25: return x.ifRun(a[0], a[1]);
      case 26: return x.darkIn(a[0]);
      case 27: return x.tokenFor(a[0], a[1]);
      case 28: return Double.doubleToLongBits(x.met());
      default: return x.digest();
    }
  }

  private static long ofModel(Model y, int call, int[] a) {
    switch (call) {
      case 0: return y.addHouse(a[0], a[1]);
      case 1: return y.setHouse(a[0], a[1], a[2]);
      case 2: return y.removeHouse(a[0]);
      case 3: return y.buy(a[0], a[1]);
      case 4: return y.lend(a[0], a[1], a[2]);
      case 5: return y.remit(a[0]);
      case 6: return y.net();
      case 7: return y.set(a[0], a[1]);
      case 8: return y.setBattery(a[0], a[1], a[2]);
      case 9: return y.run(a[0]);
      case 10: return y.type(a[0]);
      case 11: return y.clear();
      case 12: return y.fault();
      case 13: return y.load();
      case 14: return y.undo();
      case 15: return y.keep(a[0]);
      case 16: return y.back(a[0]);
      case 17: return y.house(a[0], a[1]);
      case 18: return y.loan(a[0], a[1]);
      case 19: return y.battery(a[0], a[1]);
      case 20: return y.feeder(a[0], a[1]);
      case 21: return y.account(a[0]);
      case 22: return y.supply(a[0]);
      case 23: return y.count(a[0]);
      case 24: return y.setting(a[0]);
      case 25: return y.ifRun(a[0], a[1]);
      case 26: return y.darkIn(a[0]);
      case 27: return y.tokenFor(a[0], a[1]);
      case 28: return Double.doubleToLongBits(y.met());
      default: return y.digest();
    }
  }
}
