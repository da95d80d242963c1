/**
 * A pool of prepaid electricity meters in a village. What each call promises stands in ../shared/DOC.md.
 *
 * Every row is made in a constructor and used again; no call makes an object.
 */
public final class MeterPool {
  public static final int NONE = -1000001, BAD = -1000002, STATE = -1000003, FULL = -1000004;

  private static final int HOUSES = 10, LOANS = 12, BATTERIES = 2, FEEDERS = 3, SETTINGS = 4;
  private static final int LIST = 48, TEXT = 60, STATES = 8, IMAGES = 2;
  private static final int MOST_TOKEN = 500, MOST_LENT = 200, MOST_DEMAND = 50, MOST_HOURS = 100;
  private static final int DARK_HOURS = 200, TOKEN_HOURS = 48, DIGEST_HOURS = 24;

  // The limits of the properties that a call changes by their numbers; where no least value stands, it is 0.
  private static final int[] HOUSE_MOST = {2, 50, 1000, 1};
  private static final int[] BATTERY_LEAST = {0, 0, 50};
  private static final int[] BATTERY_MOST = {500, 100, 100};
  private static final int[] SETTING_MOST = {50, 100, 100, 100};

  private static final int OVERDRAFT = 0, DEBT_SHARE = 1, LOAN_SHARE = 2, LEAST_PART = 3;

  private static final int SUPPLIED = 0, USED = 1, LOST = 2, SPILLED = 3, DISCARDED = 4, CHARGE = 5, TOKENS = 6,
      PAID = 7, ACCOUNTS = 8;

  private final Village now = new Village();
  private final Village ahead = new Village();
  private final History history = new History();
  private final Village[] images = new Village[IMAGES];
  private final boolean[] kept = new boolean[IMAGES];
  private final ListText text = new ListText();

  public MeterPool() {
    for (int image = 0; image < IMAGES; image++) {
      images[image] = new Village();
    }
  }

  // ---- houses

  public int addHouse(int feeder, int demand) {
    if (!within(feeder, 0, FEEDERS - 1) || !within(demand, 0, MOST_DEMAND)) {
      return BAD;
    }
    if (now.houses.size >= HOUSES) {
      return FULL;
    }
    history.record(now);
    return now.houses.add(feeder, demand);
  }

  public int setHouse(int house, int what, int value) {
    if (!isHouse(house) || !within(what, 0, 3) || !within(value, 0, HOUSE_MOST[what])) {
      return BAD;
    }
    history.record(now);
    int previous = now.houses.told(house, what);
    now.houses.change(house, what, value);
    return previous;
  }

  public int removeHouse(int house) {
    if (!isHouse(house)) {
      return BAD;
    }
    if (now.loans.involve(house)) {
      return STATE;
    }
    history.record(now);
    now.houses.remove(house);
    now.loans.renumber(house);
    return now.houses.size;
  }

  public int buy(int house, int units) {
    if (!isHouse(house) || !within(units, 1, MOST_TOKEN)) {
      return BAD;
    }
    history.record(now);
    now.takeToken(house, units);
    return now.houses.credit[house];
  }

  public int lend(int lender, int borrower, int units) {
    if (!isHouse(lender) || !isHouse(borrower) || lender == borrower || !within(units, 1, MOST_LENT)) {
      return BAD;
    }
    if (now.houses.credit[lender] < units) {
      return STATE;
    }
    if (now.loans.size >= LOANS) {
      return FULL;
    }
    history.record(now);
    now.houses.credit[lender] -= units;
    now.houses.credit[borrower] += units;
    now.loans.add(lender, borrower, units);
    return now.loans.size;
  }

  public int remit(int loan) {
    if (!isLoan(loan)) {
      return BAD;
    }
    history.record(now);
    int owed = now.loans.owed[loan];
    now.loans.remove(loan);
    return owed;
  }

  public int net() {
    history.record(now);
    return now.loans.offset();
  }

  // ---- settings and batteries

  public int set(int setting, int value) {
    if (!isSetting(setting) || !within(value, 0, SETTING_MOST[setting])) {
      return BAD;
    }
    history.record(now);
    int previous = now.settings[setting];
    now.settings[setting] = value;
    return previous;
  }

  public int setBattery(int battery, int what, int value) {
    if (!isBattery(battery) || !within(what, 0, 2) || !within(value, BATTERY_LEAST[what], BATTERY_MOST[what])) {
      return BAD;
    }
    history.record(now);
    int previous = now.batteries.told(battery, what);
    now.batteries.change(battery, what, value);
    now.accounts[DISCARDED] += now.batteries.discardExcess(battery);
    return previous;
  }

  public int run(int hours) {
    if (!within(hours, 1, MOST_HOURS)) {
      return BAD;
    }
    history.record(now);
    int before = now.accounts[USED];
    now.passHours(hours);
    return now.accounts[USED] - before;
  }

  // ---- text

  public int type(int code) {
    if (!within(code, 33, 126)) {
      return BAD;
    }
    if (text.length >= TEXT) {
      return FULL;
    }
    text.append(code);
    return text.length;
  }

  public int clear() {
    int length = text.length;
    text.length = 0;
    return length;
  }

  public int fault() {
    return text.firstFault();
  }

  public int load() {
    if (text.firstFault() != NONE) {
      return STATE;
    }
    history.record(now);
    now.takeList(text.numbers, text.size);
    text.length = 0;
    return now.listSize;
  }

  // ---- history and images

  public int undo() {
    if (history.size <= 0) {
      return STATE;
    }
    history.takeBack(now);
    return history.size;
  }

  public int keep(int image) {
    if (!isImage(image)) {
      return BAD;
    }
    images[image].copy(now);
    kept[image] = true;
    return now.hour;
  }

  public int back(int image) {
    if (!isImage(image)) {
      return BAD;
    }
    if (!kept[image]) {
      return STATE;
    }
    history.record(now);
    now.copy(images[image]);
    return now.hour;
  }

  // ---- what is told

  public int house(int house, int what) {
    if (!isHouse(house) || !within(what, 0, 10)) {
      return BAD;
    }
    switch (what) {
      case 5:
        return now.houses.canDraw(house, now.settings[OVERDRAFT]);
      case 9:
        return now.loans.owedBy(house);
      case 10:
        return now.loans.owedTo(house);
      default:
        return now.houses.told(house, what);
    }
  }

  public int loan(int loan, int what) {
    if (!isLoan(loan) || !within(what, 0, 2)) {
      return BAD;
    }
    return now.loans.told(loan, what);
  }

  public int battery(int battery, int what) {
    if (!isBattery(battery) || !within(what, 0, 4)) {
      return BAD;
    }
    return now.batteries.told(battery, what);
  }

  public int feeder(int feeder, int what) {
    if (!within(feeder, 0, FEEDERS - 1) || !within(what, 0, 4)) {
      return BAD;
    }
    switch (what) {
      case 0:
        return now.houses.sizeOf(feeder);
      case 1:
        return now.houses.drawnFrom(feeder, now.settings[OVERDRAFT]);
      case 2:
        return now.houses.sumFrom(feeder, now.houses.credit);
      case 3:
        return now.shedHours[feeder];
      default:
        return now.shedLatest[feeder];
    }
  }

  public int account(int what) {
    if (!within(what, 0, ACCOUNTS - 1)) {
      return BAD;
    }
    return what == CHARGE ? now.batteries.chargeOfAll() : now.accounts[what];
  }

  public int supply(int hour) {
    return hour < 0 ? BAD : now.supplyOf(hour);
  }

  public int count(int what) {
    switch (what) {
      case 0:
        return now.houses.size;
      case 1:
        return now.loans.size;
      case 2:
        return now.hour;
      case 3:
        return now.listSize;
      case 4:
        return now.turn;
      case 5:
        return history.size;
      case 6:
        return (kept[0] ? 1 : 0) + (kept[1] ? 2 : 0);
      case 7:
        return now.houses.overdrawn();
      default:
        return BAD;
    }
  }

  public int setting(int setting) {
    return isSetting(setting) ? now.settings[setting] : BAD;
  }

  // ---- ahead; nothing changes

  public int ifRun(int hours, int what) {
    if (!within(hours, 1, MOST_HOURS) || !within(what, 0, 4)) {
      return BAD;
    }
    ahead.copy(now);
    ahead.passHours(hours);
    return seenAhead(what);
  }

  public int darkIn(int house) {
    if (!isHouse(house)) {
      return BAD;
    }
    ahead.copy(now);
    int hours = ahead.hoursMet(house, DARK_HOURS);
    return hours < DARK_HOURS ? hours : NONE;
  }

  public int tokenFor(int house, int hours) {
    if (!isHouse(house) || !within(hours, 1, TOKEN_HOURS)) {
      return BAD;
    }
    int failed = -1;
    for (int units = 0; units <= MOST_TOKEN; units++) {
      int forLoans = now.partForLoans(house, units);
      // Once the credit suffices, a token changes the hours only by what the lenders get of it.
      if (forLoans != failed && now.affords(house, units, hours)) {
        if (wouldServe(house, units, hours)) {
          return units;
        }
        failed = forLoans;
      }
    }
    return NONE;
  }

  public double met() {
    int demand = now.houses.sum(now.houses.demand);
    return demand > 0 ? (double) now.houses.sum(now.houses.got) / (double) demand : 1.0;
  }

  public long digest() {
    long hash = 2111L;
    hash = mixTotals(hash);
    hash = mixHouses(hash);
    hash = mixLoans(hash);
    hash = mixPlant(hash);
    hash = mixAhead(hash);
    hash = mix(hash, bitsOf(met()));
    return mixText(hash);
  }

  // ---- what the calls share

  private static boolean within(int value, int least, int most) {
    return value >= least && value <= most;
  }

  private boolean isHouse(int house) {
    return within(house, 0, now.houses.size - 1);
  }

  private boolean isLoan(int loan) {
    return within(loan, 0, now.loans.size - 1);
  }

  private static boolean isBattery(int battery) {
    return within(battery, 0, BATTERIES - 1);
  }

  private static boolean isSetting(int setting) {
    return within(setting, 0, SETTINGS - 1);
  }

  private static boolean isImage(int image) {
    return within(image, 0, IMAGES - 1);
  }

  // What the village ahead, which a caller has let pass some hours, differs by from the present one.
  private int seenAhead(int what) {
    switch (what) {
      case 0:
        return ahead.accounts[USED] - now.accounts[USED];
      case 1:
        return ahead.timesShed() - now.timesShed();
      case 2:
        return ahead.accounts[SPILLED] - now.accounts[SPILLED];
      case 3:
        return ahead.batteries.chargeOfAll();
      default:
        return ahead.houses.unmet();
    }
  }

  private boolean wouldServe(int house, int units, int hours) {
    ahead.copy(now);
    ahead.takeToken(house, units);
    return ahead.hoursMet(house, hours) >= hours;
  }

  private static long mix(long hash, long value) {
    return 31L * hash + value;
  }

  private long mixTotals(long start) {
    long hash = start;
    for (int what = 0; what <= 7; what++) {
      hash = mix(hash, count(what));
    }
    for (int setting = 0; setting < SETTINGS; setting++) {
      hash = mix(hash, setting(setting));
    }
    for (int what = 0; what < ACCOUNTS; what++) {
      hash = mix(hash, account(what));
    }
    return hash;
  }

  private long mixHouses(long start) {
    long hash = start;
    for (int house = 0; house < now.houses.size; house++) {
      for (int what = 0; what <= 10; what++) {
        hash = mix(hash, house(house, what));
      }
    }
    return hash;
  }

  private long mixLoans(long start) {
    long hash = start;
    for (int loan = 0; loan < now.loans.size; loan++) {
      for (int what = 0; what <= 2; what++) {
        hash = mix(hash, loan(loan, what));
      }
    }
    return hash;
  }

  private long mixPlant(long start) {
    long hash = start;
    for (int battery = 0; battery < BATTERIES; battery++) {
      for (int what = 0; what <= 4; what++) {
        hash = mix(hash, battery(battery, what));
      }
    }
    for (int feeder = 0; feeder < FEEDERS; feeder++) {
      for (int what = 0; what <= 4; what++) {
        hash = mix(hash, feeder(feeder, what));
      }
    }
    for (int hour = 0; hour < now.listSize; hour++) {
      hash = mix(hash, supply(hour));
    }
    return hash;
  }

  private long mixAhead(long start) {
    long hash = start;
    ahead.copy(now);
    ahead.passHours(DIGEST_HOURS);
    for (int what = 0; what <= 4; what++) {
      hash = mix(hash, seenAhead(what));
    }
    return hash;
  }

  private long mixText(long start) {
    long hash = mix(start, text.length);
    for (int at = 0; at < text.length; at++) {
      hash = mix(hash, text.codes[at]);
    }
    return hash;
  }

  // The part of the library that this file keeps to has no doubleToLongBits; x is 0 or from 1/500 to 500.
  private static long bitsOf(double x) {
    if (x <= 0.0) {
      return 0L;
    }
    double scaled = x;
    long exponent = 1023L;
    for (int i = 0; i < 1100 && scaled >= 2.0; i++) {
      scaled = scaled / 2.0;
      exponent++;
    }
    for (int i = 0; i < 1100 && scaled < 1.0; i++) {
      scaled = scaled * 2.0;
      exponent--;
    }
    long fraction = (long) ((scaled - 1.0) * 4503599627370496.0);
    return (exponent << 52) | fraction;
  }

  /** The houses: a row for each property, a place in every row for each house. */
  private static final class Houses {
    int size;
    final int[] feeder = new int[HOUSES];
    final int[] demand = new int[HOUSES];
    final int[] debt = new int[HOUSES];
    final int[] connected = new int[HOUSES];
    final int[] credit = new int[HOUSES];
    final int[] got = new int[HOUSES];
    final int[] reason = new int[HOUSES];
    final int[] gotEver = new int[HOUSES];
    // Used within an hour alone: what a house could draw when the hour began, and what it wants.
    final int[] could = new int[HOUSES];
    final int[] wants = new int[HOUSES];

    int add(int itsFeeder, int itsDemand) {
      int house = size;
      feeder[house] = itsFeeder;
      demand[house] = itsDemand;
      debt[house] = 0;
      connected[house] = 1;
      credit[house] = 0;
      got[house] = 0;
      reason[house] = 0;
      gotEver[house] = 0;
      size++;
      return house;
    }

    void remove(int house) {
      size--;
      for (int i = house; i < size; i++) {
        feeder[i] = feeder[i + 1];
        demand[i] = demand[i + 1];
        debt[i] = debt[i + 1];
        connected[i] = connected[i + 1];
        credit[i] = credit[i + 1];
        got[i] = got[i + 1];
        reason[i] = reason[i + 1];
        gotEver[i] = gotEver[i + 1];
      }
    }

    void copy(Houses other) {
      size = other.size;
      System.arraycopy(other.feeder, 0, feeder, 0, HOUSES);
      System.arraycopy(other.demand, 0, demand, 0, HOUSES);
      System.arraycopy(other.debt, 0, debt, 0, HOUSES);
      System.arraycopy(other.connected, 0, connected, 0, HOUSES);
      System.arraycopy(other.credit, 0, credit, 0, HOUSES);
      System.arraycopy(other.got, 0, got, 0, HOUSES);
      System.arraycopy(other.reason, 0, reason, 0, HOUSES);
      System.arraycopy(other.gotEver, 0, gotEver, 0, HOUSES);
    }

    int told(int house, int what) {
      switch (what) {
        case 0:
          return feeder[house];
        case 1:
          return demand[house];
        case 2:
          return debt[house];
        case 3:
          return connected[house];
        case 4:
          return credit[house];
        case 6:
          return got[house];
        case 7:
          return reason[house];
        default:
          return gotEver[house];
      }
    }

    void change(int house, int what, int value) {
      switch (what) {
        case 0:
          feeder[house] = value;
          break;
        case 1:
          demand[house] = value;
          break;
        case 2:
          debt[house] = value;
          break;
        default:
          connected[house] = value;
          break;
      }
    }

    int canDraw(int house, int overdraft) {
      if (connected[house] == 0) {
        return 0;
      }
      return Math.max(0, Math.min(demand[house], credit[house] + overdraft));
    }

    void wantAll(int overdraft) {
      for (int house = 0; house < size; house++) {
        could[house] = canDraw(house, overdraft);
        wants[house] = could[house];
      }
    }

    int sum(int[] row) {
      int sum = 0;
      for (int house = 0; house < size; house++) {
        sum += row[house];
      }
      return sum;
    }

    int sumFrom(int itsFeeder, int[] row) {
      int sum = 0;
      for (int house = 0; house < size; house++) {
        sum += feeder[house] == itsFeeder ? row[house] : 0;
      }
      return sum;
    }

    void wantNothing(int itsFeeder) {
      for (int house = 0; house < size; house++) {
        if (feeder[house] == itsFeeder) {
          wants[house] = 0;
        }
      }
    }

    void receive(int house, int units, boolean shed) {
      got[house] = units;
      gotEver[house] += units;
      credit[house] -= units;
      reason[house] = reasonOf(house, shed);
    }

    private int reasonOf(int house, boolean shed) {
      if (got[house] == demand[house]) {
        return 0;
      }
      if (connected[house] == 0) {
        return 1;
      }
      if (could[house] < demand[house]) {
        return 2;
      }
      return shed ? 3 : 4;
    }

    int unmet() {
      int houses = 0;
      for (int house = 0; house < size; house++) {
        houses += got[house] < demand[house] ? 1 : 0;
      }
      return houses;
    }

    int overdrawn() {
      int houses = 0;
      for (int house = 0; house < size; house++) {
        houses += credit[house] < 0 ? 1 : 0;
      }
      return houses;
    }

    int sizeOf(int itsFeeder) {
      int houses = 0;
      for (int house = 0; house < size; house++) {
        houses += feeder[house] == itsFeeder ? 1 : 0;
      }
      return houses;
    }

    int drawnFrom(int itsFeeder, int overdraft) {
      int sum = 0;
      for (int house = 0; house < size; house++) {
        sum += feeder[house] == itsFeeder ? canDraw(house, overdraft) : 0;
      }
      return sum;
    }
  }

  /** The loans, the oldest one first. */
  private static final class Loans {
    int size;
    final int[] lender = new int[LOANS];
    final int[] borrower = new int[LOANS];
    final int[] owed = new int[LOANS];

    void add(int itsLender, int itsBorrower, int units) {
      lender[size] = itsLender;
      borrower[size] = itsBorrower;
      owed[size] = units;
      size++;
    }

    void remove(int loan) {
      size--;
      for (int i = loan; i < size; i++) {
        lender[i] = lender[i + 1];
        borrower[i] = borrower[i + 1];
        owed[i] = owed[i + 1];
      }
    }

    void copy(Loans other) {
      size = other.size;
      System.arraycopy(other.lender, 0, lender, 0, LOANS);
      System.arraycopy(other.borrower, 0, borrower, 0, LOANS);
      System.arraycopy(other.owed, 0, owed, 0, LOANS);
    }

    int told(int loan, int what) {
      switch (what) {
        case 0:
          return lender[loan];
        case 1:
          return borrower[loan];
        default:
          return owed[loan];
      }
    }

    boolean involve(int house) {
      for (int loan = 0; loan < size; loan++) {
        if (lender[loan] == house || borrower[loan] == house) {
          return true;
        }
      }
      return false;
    }

    // The numbers of the houses behind a removed one decrease by 1.
    void renumber(int removed) {
      for (int loan = 0; loan < size; loan++) {
        lender[loan] -= lender[loan] > removed ? 1 : 0;
        borrower[loan] -= borrower[loan] > removed ? 1 : 0;
      }
    }

    int owedBy(int house) {
      return sumOwed(borrower, house);
    }

    int owedTo(int house) {
      return sumOwed(lender, house);
    }

    private int sumOwed(int[] side, int house) {
      int sum = 0;
      for (int loan = 0; loan < size; loan++) {
        sum += side[loan] == house ? owed[loan] : 0;
      }
      return sum;
    }

    // From the last one on, so that a removal moves none that is still to be looked at.
    void removePaid() {
      for (int loan = size - 1; loan >= 0; loan--) {
        if (owed[loan] <= 0) {
          remove(loan);
        }
      }
    }

    // Each pair that is offset ends at least one loan, so there are no more rounds than loans.
    int offset() {
      int sum = 0;
      for (int round = 0; round < LOANS; round++) {
        int first = firstOpposed();
        int second = opposedTo(first);
        if (second < 0) {
          return sum;
        }
        int both = Math.min(owed[first], owed[second]);
        owed[first] -= both;
        owed[second] -= both;
        sum += both;
        removePaid();
      }
      return sum;
    }

    private int firstOpposed() {
      for (int loan = 0; loan < size; loan++) {
        if (opposedTo(loan) >= 0) {
          return loan;
        }
      }
      return -1;
    }

    // The first later loan of the same two houses the other way round, or -1.
    private int opposedTo(int loan) {
      if (loan < 0) {
        return -1;
      }
      for (int later = loan + 1; later < size; later++) {
        if (lender[later] == borrower[loan] && borrower[later] == lender[loan]) {
          return later;
        }
      }
      return -1;
    }
  }

  /** The shared batteries. */
  private static final class Batteries {
    final int[] capacity = new int[BATTERIES];
    final int[] rate = new int[BATTERIES];
    final int[] efficiency = new int[BATTERIES];
    final int[] charge = new int[BATTERIES];

    Batteries() {
      for (int battery = 0; battery < BATTERIES; battery++) {
        rate[battery] = 20;
        efficiency[battery] = 90;
      }
    }

    void copy(Batteries other) {
      System.arraycopy(other.capacity, 0, capacity, 0, BATTERIES);
      System.arraycopy(other.rate, 0, rate, 0, BATTERIES);
      System.arraycopy(other.efficiency, 0, efficiency, 0, BATTERIES);
      System.arraycopy(other.charge, 0, charge, 0, BATTERIES);
    }

    int told(int battery, int what) {
      switch (what) {
        case 0:
          return capacity[battery];
        case 1:
          return rate[battery];
        case 2:
          return efficiency[battery];
        case 3:
          return charge[battery];
        default:
          return canGive(battery);
      }
    }

    void change(int battery, int what, int value) {
      switch (what) {
        case 0:
          capacity[battery] = value;
          break;
        case 1:
          rate[battery] = value;
          break;
        default:
          efficiency[battery] = value;
          break;
      }
    }

    int discardExcess(int battery) {
      int excess = Math.max(0, charge[battery] - capacity[battery]);
      charge[battery] -= excess;
      return excess;
    }

    int chargeOfAll() {
      return charge[0] + charge[1];
    }

    int canGive(int battery) {
      return Math.min(charge[battery], rate[battery]);
    }

    int canGiveAll() {
      return canGive(0) + canGive(1);
    }

    void give(int units) {
      int left = units;
      for (int battery = 0; battery < BATTERIES; battery++) {
        int given = Math.min(left, canGive(battery));
        charge[battery] -= given;
        left -= given;
      }
    }

    // The greatest x for which x * efficiency / 100 still has room: even a full battery may take what is wholly lost.
    int canTake(int battery, int left) {
      int share = efficiency[battery];
      int room = capacity[battery] - charge[battery];
      int fits = share > 0 ? (room * 100 + 99) / share : 0;
      return Math.min(fits, Math.min(rate[battery], left));
    }

    int takeIn(int battery, int taken) {
      int stored = taken * efficiency[battery] / 100;
      charge[battery] += stored;
      return stored;
    }
  }

  /** What the history and the images keep: everything but the text, the images and the history. */
  private static final class Village {
    final Houses houses = new Houses();
    final Loans loans = new Loans();
    final Batteries batteries = new Batteries();
    final int[] settings = new int[SETTINGS];
    // The place of the charge stays empty: the batteries know it.
    final int[] accounts = new int[ACCOUNTS];
    final int[] shedHours = new int[FEEDERS];
    final int[] shedLatest = new int[FEEDERS];
    final int[] list = new int[LIST];
    int listSize = 1;
    int hour = 0;
    int turn = 1;

    Village() {
      settings[OVERDRAFT] = 5;
      settings[DEBT_SHARE] = 40;
      settings[LOAN_SHARE] = 50;
      settings[LEAST_PART] = 50;
      list[0] = 20;
    }

    void copy(Village other) {
      houses.copy(other.houses);
      loans.copy(other.loans);
      batteries.copy(other.batteries);
      System.arraycopy(other.settings, 0, settings, 0, SETTINGS);
      System.arraycopy(other.accounts, 0, accounts, 0, ACCOUNTS);
      System.arraycopy(other.shedHours, 0, shedHours, 0, FEEDERS);
      System.arraycopy(other.shedLatest, 0, shedLatest, 0, FEEDERS);
      takeList(other.list, other.listSize);
      hour = other.hour;
      turn = other.turn;
    }

    void takeList(int[] numbers, int size) {
      System.arraycopy(numbers, 0, list, 0, LIST);
      listSize = size;
    }

    int supplyOf(int itsHour) {
      return listSize > 0 ? list[Math.floorMod(itsHour, listSize)] : 0;
    }

    int timesShed() {
      return shedHours[1] + shedHours[2];
    }

    int partForDebt(int house, int units) {
      return Math.min(houses.debt[house], units * settings[DEBT_SHARE] / 100);
    }

    int partForLoans(int house, int units) {
      int rest = units - partForDebt(house, units);
      return Math.min(loans.owedBy(house), rest * settings[LOAN_SHARE] / 100);
    }

    void takeToken(int house, int units) {
      int forDebt = partForDebt(house, units);
      int forLoans = partForLoans(house, units);
      houses.debt[house] -= forDebt;
      payLoans(house, forLoans);
      houses.credit[house] += units - forDebt - forLoans;
      accounts[TOKENS] += units;
      accounts[PAID] += forDebt;
    }

    private void payLoans(int house, int units) {
      int left = units;
      for (int loan = 0; loan < loans.size; loan++) {
        if (loans.borrower[loan] == house) {
          int paid = Math.min(left, loans.owed[loan]);
          loans.owed[loan] -= paid;
          houses.credit[loans.lender[loan]] += paid;
          left -= paid;
        }
      }
      loans.removePaid();
    }

    // Whether the house, with a token, could draw its demand in each of the hours if there is energy enough:
    // nothing adds to its credit while the hours pass.
    boolean affords(int house, int units, int hours) {
      int demand = houses.demand[house];
      int added = units - partForDebt(house, units) - partForLoans(house, units);
      return demand == 0 || houses.credit[house] + added + settings[OVERDRAFT] >= hours * demand;
    }

    void passHours(int hours) {
      for (int i = 0; i < hours; i++) {
        passHour();
      }
    }

    // Lets hours pass as long as the house gets its demand, and at most so many: in how many it did.
    int hoursMet(int house, int hours) {
      for (int met = 0; met < hours; met++) {
        passHour();
        if (houses.got[house] < houses.demand[house]) {
          return met;
        }
      }
      return hours;
    }

    private void passHour() {
      int supplied = supplyOf(hour);
      int available = supplied + batteries.canGiveAll();
      houses.wantAll(settings[OVERDRAFT]);
      shed(available);
      int used = serve(available);
      accounts[SUPPLIED] += supplied;
      accounts[USED] += used;
      if (used > supplied) {
        batteries.give(used - supplied);
      } else {
        store(supplied - used);
      }
      hour++;
    }

    private void shed(int available) {
      for (int feeder = 0; feeder < FEEDERS; feeder++) {
        shedLatest[feeder] = 0;
      }
      for (int round = 0; round < 2 && houses.sum(houses.wants) > available; round++) {
        if (houses.sumFrom(turn, houses.wants) > 0) {
          houses.wantNothing(turn);
          shedLatest[turn] = 1;
          shedHours[turn]++;
        }
        turn = turn == 1 ? 2 : 1;
      }
    }

    private int serve(int available) {
      int left = available;
      for (int feeder = 0; feeder < FEEDERS; feeder++) {
        for (int house = 0; house < houses.size; house++) {
          if (houses.feeder[house] == feeder) {
            int part = partOf(houses.wants[house], left);
            houses.receive(house, part, shedLatest[feeder] == 1);
            left -= part;
          }
        }
      }
      return available - left;
    }

    private int partOf(int wanted, int left) {
      if (left >= wanted) {
        return wanted;
      }
      return left * 100 >= wanted * settings[LEAST_PART] ? left : 0;
    }

    private void store(int units) {
      int left = units;
      for (int battery = 0; battery < BATTERIES; battery++) {
        int taken = batteries.canTake(battery, left);
        accounts[LOST] += taken - batteries.takeIn(battery, taken);
        left -= taken;
      }
      accounts[SPILLED] += left;
    }
  }

  /** The states before the latest changes, the oldest one first. */
  private static final class History {
    int size;
    final Village[] states = new Village[STATES];

    History() {
      for (int i = 0; i < STATES; i++) {
        states[i] = new Village();
      }
    }

    void record(Village state) {
      if (size >= STATES) {
        dropOldest();
      }
      states[size].copy(state);
      size++;
    }

    // The oldest one goes behind the others, to be written anew.
    private void dropOldest() {
      Village oldest = states[0];
      for (int i = 0; i < STATES - 1; i++) {
        states[i] = states[i + 1];
      }
      states[STATES - 1] = oldest;
      size--;
    }

    void takeBack(Village state) {
      size--;
      state.copy(states[size]);
    }
  }

  /** The input text, and the list that it tells. */
  private static final class ListText {
    private static final int NUMBER_BEGINS = 0, NUMBER = 1, TIMES_BEGIN = 2, TIMES = 3, FAULT = 4;

    int length;
    final int[] codes = new int[TEXT];
    // What the latest reading found: the numbers of the items that are whole, and the item that is being read.
    int size;
    final int[] numbers = new int[LIST];
    private int value;
    private int times;

    void append(int code) {
      codes[length] = code;
      length++;
    }

    // Reads the whole text; without a fault, numbers and size are its list.
    int firstFault() {
      size = 0;
      int phase = NUMBER_BEGINS;
      for (int at = 0; at < length; at++) {
        phase = next(phase, codes[at]);
        if (phase == FAULT) {
          return at;
        }
      }
      if (!isWhole(phase)) {
        return length;
      }
      endItem(phase);
      return NONE;
    }

    private int next(int phase, int code) {
      switch (phase) {
        case NUMBER_BEGINS:
          return beginNumber(code);
        case NUMBER:
          return inNumber(code);
        case TIMES_BEGIN:
          return beginTimes(code);
        default:
          return inTimes(code);
      }
    }

    private static boolean isDigit(int code) {
      return code >= '0' && code <= '9';
    }

    private int beginNumber(int code) {
      if (!isDigit(code)) {
        return FAULT;
      }
      value = code - '0';
      return NUMBER;
    }

    private int inNumber(int code) {
      if (code == ',') {
        return size + 1 < LIST ? endItem(NUMBER) : FAULT;
      }
      if (code == '*') {
        return size + 2 <= LIST ? TIMES_BEGIN : FAULT;
      }
      if (!isDigit(code) || value == 0 || value * 10 + code - '0' > 500) {
        return FAULT;
      }
      value = value * 10 + code - '0';
      return NUMBER;
    }

    // A 1 can only begin 10 to 19, as an item comes twice at least.
    private int beginTimes(int code) {
      if (!isDigit(code) || code == '0') {
        return FAULT;
      }
      times = code - '0';
      return size + (times == 1 ? 10 : times) <= LIST ? TIMES : FAULT;
    }

    private int inTimes(int code) {
      if (code == ',') {
        return times >= 2 && size + times < LIST ? endItem(TIMES) : FAULT;
      }
      if (!isDigit(code) || size + times * 10 + code - '0' > LIST) {
        return FAULT;
      }
      times = times * 10 + code - '0';
      return TIMES;
    }

    private boolean isWhole(int phase) {
      return phase == NUMBER || phase == TIMES && times >= 2;
    }

    private int endItem(int phase) {
      int last = Math.min(LIST, size + (phase == TIMES ? times : 1));
      for (int i = size; i < last; i++) {
        numbers[i] = value;
      }
      size = last;
      return NUMBER_BEGINS;
    }
  }
}
