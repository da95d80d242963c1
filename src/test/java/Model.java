import java.util.ArrayList;
import java.util.List;

/**
 * The document told a second time, as plainly as it can be and by other means than MeterPool: objects and lists,
 * states that are copied whole, every search done by trying. RandomRunsTest holds the two against each other.
 */
final class Model {
  static final int NONE = -1000001, BAD = -1000002, STATE = -1000003, FULL = -1000004;

  static final class House {
    int feeder, demand, debt, credit, got, reason, gotEver;
    int connected = 1;

    House copy() {
      House h = new House();
      h.feeder = feeder;
      h.demand = demand;
      h.debt = debt;
      h.credit = credit;
      h.got = got;
      h.reason = reason;
      h.gotEver = gotEver;
      h.connected = connected;
      return h;
    }
  }

  static final class Loan {
    int lender, borrower, owed;

    Loan(int lender, int borrower, int owed) {
      this.lender = lender;
      this.borrower = borrower;
      this.owed = owed;
    }
  }

  static final class Battery {
    int capacity = 0, rate = 20, efficiency = 90, charge = 0;

    int gives() {
      return charge < rate ? charge : rate;
    }
  }

  static final class Pool {
    List<House> houses = new ArrayList<>();
    List<Loan> loans = new ArrayList<>();
    Battery[] batteries = {new Battery(), new Battery()};
    int[] settings = {5, 40, 50, 50};
    int[] list = {20};
    int hour = 0, turn = 1;
    int[] shedHours = new int[3];
    boolean[] shedLatest = new boolean[3];
    int supplied, used, lost, spilled, discarded, tokens, paid;

    Pool copy() {
      Pool p = new Pool();
      for (House h : houses) {
        p.houses.add(h.copy());
      }
      for (Loan l : loans) {
        p.loans.add(new Loan(l.lender, l.borrower, l.owed));
      }
      for (int b = 0; b < 2; b++) {
        p.batteries[b].capacity = batteries[b].capacity;
        p.batteries[b].rate = batteries[b].rate;
        p.batteries[b].efficiency = batteries[b].efficiency;
        p.batteries[b].charge = batteries[b].charge;
      }
      p.settings = settings.clone();
      p.list = list.clone();
      p.hour = hour;
      p.turn = turn;
      p.shedHours = shedHours.clone();
      p.shedLatest = shedLatest.clone();
      p.supplied = supplied;
      p.used = used;
      p.lost = lost;
      p.spilled = spilled;
      p.discarded = discarded;
      p.tokens = tokens;
      p.paid = paid;
      return p;
    }

    int draw(House h) {
      int limit = h.credit + settings[0];
      int could = h.demand;
      if (could > limit) {
        could = limit;
      }
      if (could < 0 || h.connected == 0) {
        could = 0;
      }
      return could;
    }

    void token(int house, int units) {
      House h = houses.get(house);
      int forDebt = units * settings[1] / 100;
      if (forDebt > h.debt) {
        forDebt = h.debt;
      }
      h.debt -= forDebt;
      paid += forDebt;
      tokens += units;
      int r = units - forDebt;
      int forLoans = r * settings[2] / 100;
      int units1 = 0;
      // Unit by unit, each to the oldest loan that there still is.
      for (int u = 0; u < forLoans; u++) {
        Loan oldest = null;
        for (Loan l : loans) {
          if (l.borrower == house && oldest == null) {
            oldest = l;
          }
        }
        if (oldest != null) {
          oldest.owed--;
          houses.get(oldest.lender).credit++;
          units1++;
          if (oldest.owed == 0) {
            loans.remove(oldest);
          }
        }
      }
      h.credit += r - units1;
    }

    void anHour() {
      int supply = list[hour % list.length];
      int available = supply + batteries[0].gives() + batteries[1].gives();
      int n = houses.size();
      int[] want = new int[n];
      int[] could = new int[n];
      for (int i = 0; i < n; i++) {
        want[i] = draw(houses.get(i));
        could[i] = want[i];
      }
      shedLatest = new boolean[3];
      for (int round = 1; round <= 2; round++) {
        int sum = 0, ofTurn = 0;
        for (int i = 0; i < n; i++) {
          sum += want[i];
          if (houses.get(i).feeder == turn) {
            ofTurn += want[i];
          }
        }
        if (sum <= available) {
          break;
        }
        if (ofTurn > 0) {
          shedLatest[turn] = true;
          shedHours[turn]++;
          for (int i = 0; i < n; i++) {
            if (houses.get(i).feeder == turn) {
              want[i] = 0;
            }
          }
        }
        turn = 3 - turn;
      }
      int left = available;
      for (int f = 0; f < 3; f++) {
        for (int i = 0; i < n; i++) {
          House h = houses.get(i);
          if (h.feeder != f) {
            continue;
          }
          int gets;
          if (left >= want[i]) {
            gets = want[i];
          } else if (left * 100 >= want[i] * settings[3]) {
            gets = left;
          } else {
            gets = 0;
          }
          left -= gets;
          h.got = gets;
          h.gotEver += gets;
          h.credit -= gets;
          boolean forCredit = h.connected == 1 && could[i] < h.demand;
          h.reason = gets == h.demand ? 0 : h.connected == 0 ? 1 : forCredit ? 2 : shedLatest[f] ? 3 : 4;
        }
      }
      int got = available - left;
      supplied += supply;
      used += got;
      int rest = got - supply;
      for (int b = 0; b < 2 && rest > 0; b++) {
        int x = Math.min(rest, batteries[b].gives());
        batteries[b].charge -= x;
        rest -= x;
      }
      int over = Math.max(0, supply - got);
      for (int b = 0; b < 2; b++) {
        Battery y = batteries[b];
        int x = Math.min(y.rate, over);
        while (y.charge + x * y.efficiency / 100 > y.capacity) {
          x--;
        }
        int in = x * y.efficiency / 100;
        y.charge += in;
        lost += x - in;
        over -= x;
      }
      spilled += over;
      hour++;
    }
  }

  Pool p = new Pool();
  final List<Pool> history = new ArrayList<>();
  final Pool[] images = new Pool[2];
  String text = "";

  private void change() {
    history.add(p.copy());
    if (history.size() > 8) {
      history.remove(0);
    }
  }

  private boolean noHouse(int house) {
    return house < 0 || house >= p.houses.size();
  }

  int addHouse(int feeder, int demand) {
    if (feeder < 0 || feeder > 2 || demand < 0 || demand > 50) {
      return BAD;
    }
    if (p.houses.size() == 10) {
      return FULL;
    }
    change();
    House h = new House();
    h.feeder = feeder;
    h.demand = demand;
    p.houses.add(h);
    return p.houses.size() - 1;
  }

  int setHouse(int house, int what, int value) {
    if (noHouse(house) || value < 0) {
      return BAD;
    }
    int old = house(house, what);
    if (what == 0 && value <= 2) {
      change();
      p.houses.get(house).feeder = value;
    } else if (what == 1 && value <= 50) {
      change();
      p.houses.get(house).demand = value;
    } else if (what == 2 && value <= 1000) {
      change();
      p.houses.get(house).debt = value;
    } else if (what == 3 && value <= 1) {
      change();
      p.houses.get(house).connected = value;
    } else {
      return BAD;
    }
    return old;
  }

  int removeHouse(int house) {
    if (noHouse(house)) {
      return BAD;
    }
    for (Loan l : p.loans) {
      if (l.lender == house || l.borrower == house) {
        return STATE;
      }
    }
    change();
    p.houses.remove(house);
    for (Loan l : p.loans) {
      if (l.lender > house) {
        l.lender--;
      }
      if (l.borrower > house) {
        l.borrower--;
      }
    }
    return p.houses.size();
  }

  int buy(int house, int units) {
    if (noHouse(house) || units < 1 || units > 500) {
      return BAD;
    }
    change();
    p.token(house, units);
    return p.houses.get(house).credit;
  }

  int lend(int lender, int borrower, int units) {
    if (noHouse(lender) || noHouse(borrower) || lender == borrower || units < 1 || units > 200) {
      return BAD;
    }
    if (p.houses.get(lender).credit < units) {
      return STATE;
    }
    if (p.loans.size() == 12) {
      return FULL;
    }
    change();
    p.houses.get(lender).credit -= units;
    p.houses.get(borrower).credit += units;
    p.loans.add(new Loan(lender, borrower, units));
    return p.loans.size();
  }

  int remit(int loan) {
    if (loan < 0 || loan >= p.loans.size()) {
      return BAD;
    }
    change();
    return p.loans.remove(loan).owed;
  }

  int net() {
    change();
    int sum = 0;
    boolean again = true;
    while (again) {
      again = false;
      search:
      for (int i = 0; i < p.loans.size(); i++) {
        for (int j = i + 1; j < p.loans.size(); j++) {
          Loan a = p.loans.get(i), b = p.loans.get(j);
          if (a.lender == b.borrower && a.borrower == b.lender) {
            int least = Math.min(a.owed, b.owed);
            sum += least;
            a.owed -= least;
            b.owed -= least;
            p.loans.removeIf(l -> l.owed == 0);
            again = true;
            break search;
          }
        }
      }
    }
    return sum;
  }

  int set(int setting, int value) {
    if (setting < 0 || setting > 3 || value < 0 || value > (setting == 0 ? 50 : 100)) {
      return BAD;
    }
    change();
    int old = p.settings[setting];
    p.settings[setting] = value;
    return old;
  }

  int setBattery(int battery, int what, int value) {
    if (battery < 0 || battery > 1) {
      return BAD;
    }
    Battery b = p.batteries[battery];
    if (what == 0 && value >= 0 && value <= 500) {
      change();
      int old = b.capacity;
      b.capacity = value;
      while (b.charge > b.capacity) {
        b.charge--;
        p.discarded++;
      }
      return old;
    }
    if (what == 1 && value >= 0 && value <= 100) {
      change();
      int old = b.rate;
      b.rate = value;
      return old;
    }
    if (what == 2 && value >= 50 && value <= 100) {
      change();
      int old = b.efficiency;
      b.efficiency = value;
      return old;
    }
    return BAD;
  }

  int run(int hours) {
    if (hours < 1 || hours > 100) {
      return BAD;
    }
    change();
    int used = -p.used;
    for (int i = 0; i < hours; i++) {
      p.anHour();
    }
    return used + p.used;
  }

  int type(int code) {
    if (code < 33 || code > 126) {
      return BAD;
    }
    if (text.length() == 60) {
      return FULL;
    }
    text += (char) code;
    return text.length();
  }

  int clear() {
    int length = text.length();
    text = "";
    return length;
  }

  /** The list that a text is, or null. */
  static List<Integer> listOf(String text) {
    if (!text.matches("(0|[1-9][0-9]{0,2})(\\*[1-9][0-9]?)?(,(0|[1-9][0-9]{0,2})(\\*[1-9][0-9]?)?)*")) {
      return null;
    }
    List<Integer> list = new ArrayList<>();
    for (String item : text.split(",")) {
      String[] parts = item.split("\\*");
      int number = Integer.parseInt(parts[0]);
      int times = parts.length == 2 ? Integer.parseInt(parts[1]) : 1;
      if (number > 500 || parts.length == 2 && (times < 2 || times > 48)) {
        return null;
      }
      for (int i = 0; i < times; i++) {
        list.add(number);
      }
    }
    return list.size() <= 48 ? list : null;
  }

  /** Whatever a text that a list begins with ends in, one of these makes it whole: "," "0", "*" "2", "*1" "0". */
  static boolean begins(String text) {
    return listOf(text) != null || listOf(text + "0") != null || listOf(text + "2") != null;
  }

  int fault() {
    for (int i = 0; i < text.length(); i++) {
      if (!begins(text.substring(0, i + 1))) {
        return i;
      }
    }
    return listOf(text) == null ? text.length() : NONE;
  }

  int load() {
    List<Integer> list = listOf(text);
    if (list == null) {
      return STATE;
    }
    change();
    text = "";
    p.list = new int[list.size()];
    for (int i = 0; i < p.list.length; i++) {
      p.list[i] = list.get(i);
    }
    return p.list.length;
  }

  int undo() {
    if (history.isEmpty()) {
      return STATE;
    }
    p = history.remove(history.size() - 1);
    return history.size();
  }

  int keep(int image) {
    if (image < 0 || image > 1) {
      return BAD;
    }
    images[image] = p.copy();
    return p.hour;
  }

  int back(int image) {
    if (image < 0 || image > 1) {
      return BAD;
    }
    if (images[image] == null) {
      return STATE;
    }
    change();
    p = images[image].copy();
    return p.hour;
  }

  int house(int house, int what) {
    if (noHouse(house)) {
      return BAD;
    }
    House h = p.houses.get(house);
    int owes = 0, owed = 0;
    for (Loan l : p.loans) {
      owes += l.borrower == house ? l.owed : 0;
      owed += l.lender == house ? l.owed : 0;
    }
    int[] all = {h.feeder, h.demand, h.debt, h.connected, h.credit, p.draw(h), h.got, h.reason, h.gotEver, owes, owed};
    return what < 0 || what >= all.length ? BAD : all[what];
  }

  int loan(int loan, int what) {
    if (loan < 0 || loan >= p.loans.size() || what < 0 || what > 2) {
      return BAD;
    }
    Loan l = p.loans.get(loan);
    return what == 0 ? l.lender : what == 1 ? l.borrower : l.owed;
  }

  int battery(int battery, int what) {
    if (battery < 0 || battery > 1 || what < 0 || what > 4) {
      return BAD;
    }
    Battery b = p.batteries[battery];
    return new int[] {b.capacity, b.rate, b.efficiency, b.charge, b.gives()}[what];
  }

  int feeder(int feeder, int what) {
    if (feeder < 0 || feeder > 2 || what < 0 || what > 4) {
      return BAD;
    }
    int houses = 0, draw = 0, credit = 0;
    for (House h : p.houses) {
      if (h.feeder == feeder) {
        houses++;
        draw += p.draw(h);
        credit += h.credit;
      }
    }
    return new int[] {houses, draw, credit, p.shedHours[feeder], p.shedLatest[feeder] ? 1 : 0}[what];
  }

  private static int charge(Pool pool) {
    return pool.batteries[0].charge + pool.batteries[1].charge;
  }

  int account(int what) {
    int[] all = {p.supplied, p.used, p.lost, p.spilled, p.discarded, charge(p), p.tokens, p.paid};
    return what < 0 || what >= all.length ? BAD : all[what];
  }

  int supply(int hour) {
    return hour < 0 ? BAD : p.list[hour % p.list.length];
  }

  int count(int what) {
    int mask = (images[0] == null ? 0 : 1) | (images[1] == null ? 0 : 2);
    int negative = 0;
    for (House h : p.houses) {
      if (h.credit < 0) {
        negative++;
      }
    }
    int[] all = {p.houses.size(), p.loans.size(), p.hour, p.list.length, p.turn, history.size(), mask, negative};
    return what < 0 || what >= all.length ? BAD : all[what];
  }

  int setting(int setting) {
    return setting < 0 || setting > 3 ? BAD : p.settings[setting];
  }

  int ifRun(int hours, int what) {
    if (hours < 1 || hours > 100 || what < 0 || what > 4) {
      return BAD;
    }
    Pool q = p.copy();
    int used = 0, shed = 0, spilled = 0, less = 0;
    for (int i = 0; i < hours; i++) {
      int u = q.used, s = q.spilled;
      q.anHour();
      used += q.used - u;
      spilled += q.spilled - s;
      shed += (q.shedLatest[1] ? 1 : 0) + (q.shedLatest[2] ? 1 : 0);
      less = 0;
      for (House h : q.houses) {
        less += h.got < h.demand ? 1 : 0;
      }
    }
    return new int[] {used, shed, spilled, charge(q), less}[what];
  }

  int darkIn(int house) {
    if (noHouse(house)) {
      return BAD;
    }
    return firstDark(p.copy(), house, 200);
  }

  private static int firstDark(Pool q, int house, int hours) {
    for (int i = 0; i < hours; i++) {
      q.anHour();
      if (q.houses.get(house).got < q.houses.get(house).demand) {
        return i;
      }
    }
    return NONE;
  }

  int tokenFor(int house, int hours) {
    if (noHouse(house) || hours < 1 || hours > 48) {
      return BAD;
    }
    if (firstDark(p.copy(), house, hours) == NONE) {
      return 0;
    }
    for (int units = 1; units <= 500; units++) {
      Pool q = p.copy();
      q.token(house, units);
      if (firstDark(q, house, hours) == NONE) {
        return units;
      }
    }
    return NONE;
  }

  double met() {
    double got = 0, demand = 0;
    for (House h : p.houses) {
      got += h.got;
      demand += h.demand;
    }
    return demand == 0 ? 1.0 : got / demand;
  }

  long digest() {
    List<Long> values = new ArrayList<>();
    for (int i = 0; i < 8; i++) {
      values.add((long) count(i));
    }
    for (int i = 0; i < 4; i++) {
      values.add((long) setting(i));
    }
    for (int i = 0; i < 8; i++) {
      values.add((long) account(i));
    }
    for (int h = 0; h < p.houses.size(); h++) {
      for (int i = 0; i <= 10; i++) {
        values.add((long) house(h, i));
      }
    }
    for (int l = 0; l < p.loans.size(); l++) {
      for (int i = 0; i <= 2; i++) {
        values.add((long) loan(l, i));
      }
    }
    for (int b = 0; b < 2; b++) {
      for (int i = 0; i <= 4; i++) {
        values.add((long) battery(b, i));
      }
    }
    for (int f = 0; f < 3; f++) {
      for (int i = 0; i <= 4; i++) {
        values.add((long) feeder(f, i));
      }
    }
    for (int number : p.list) {
      values.add((long) number);
    }
    for (int i = 0; i < 5; i++) {
      values.add((long) ifRun(24, i));
    }
    values.add(Double.doubleToLongBits(met()));
    values.add((long) text.length());
    for (char c : text.toCharArray()) {
      values.add((long) c);
    }
    long hash = 2111;
    for (long value : values) {
      hash = 31 * hash + value;
    }
    return hash;
  }
}
