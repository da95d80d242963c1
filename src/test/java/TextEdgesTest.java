/**
 * The sentences of "Input text" and of promises 12 to 15 that name a boundary case, each with a test of its own; the
 * sentence stands above it. What is refused stands in RefusalsTest.
 */
public final class TextEdgesTest extends PoolChecks {
  public static void main(String[] args) {
    codesFrom33To126();
    atMost60Characters();
    roomAgain();
    clearNothing();
    emptyTextHasAFault();
    numberFrom0To500();
    noLeadingZeros();
    timesFrom2To48();
    timesWithoutLeadingZeros();
    firstTimesMayBe1();
    separatedByCommas();
    noOtherCharacters();
    onlyOneStar();
    atMost48Numbers();
    roomForANumber();
    roomForTimes();
    oneDigitOfTimes();
    manyItems();
    firstCharacter();
    itsLengthWhenNotWhole();
    listsDoNotEndWithTheText();
    noneIfThereIsNoFault();
    tellsNothingElse();
    shortestAndLongestList();
    loadNeedsAWholeList();
    loadClears();
    loadAgain();
    loadIsAChange();
    textIsNoState();
    check.end();
  }

  private static void fault(String text, int want) {
    MeterPool x = new MeterPool();
    typeAll(x, text);
    due("fault of " + text, x.fault(), want);
    due("load of " + text, x.load() > 0 ? 1 : 0, want == NONE ? 1 : 0);
  }

  private static void whole(String... texts) {
    for (String text : texts) {
      fault(text, NONE);
    }
  }

  /** A list may begin so, but is not whole. */
  private static void begun(String... texts) {
    for (String text : texts) {
      fault(text, text.length());
    }
  }

  /** The last character is the first one with which no list begins any more. */
  private static void broken(String... texts) {
    for (String text : texts) {
      fault(text, text.length() - 1);
      fault(text + "1", text.length() - 1);
      fault(text + ",", text.length() - 1);
    }
  }

  private static String repeated(String item, int times) {
    StringBuilder text = new StringBuilder();
    for (int i = 0; i < times; i++) {
      text.append(i == 0 ? "" : ",").append(item);
    }
    return text.toString();
  }

  /** "code: the character code, 33 to 126" */
  private static void codesFrom33To126() {
    MeterPool x = new MeterPool();
    due("32", x.type(32), BAD);
    due("127", x.type(127), BAD);
    due("0", x.type(0), BAD);
    due("-33", x.type(-33), BAD);
    due("256 and 53", x.type(256 + 53), BAD);
    due("65536 and 53", x.type(65536 + 53), BAD);
    due("none was typed", x.clear(), 0);
    for (int code = 33; code <= 126; code++) {
      due("code " + code, x.type(code), 1 + (code - 33) % 47);
      if (code == 79) {
        x.clear();
      }
    }
  }

  /** "The text has at most 60 characters." and "FULL if it has 60 characters" */
  private static void atMost60Characters() {
    MeterPool x = new MeterPool();
    for (int i = 1; i <= 60; i++) {
      due("character " + i, x.type('1'), i);
    }
    due("61st", x.type('1'), FULL);
    due("61st again", x.type('a'), FULL);
    due("none that is one", x.type(127), BAD);
    due("as long as before", x.clear(), 60);
  }

  /** "FULL if it has 60 characters": no more when it is cleared or loaded */
  private static void roomAgain() {
    MeterPool x = new MeterPool();
    typeAll(x, repeated("1", 30) + ",");
    due("full", x.type('1'), FULL);
    due("cleared", x.clear(), 60);
    typeAll(x, repeated("1", 30) + ",");
    due("full again", x.type('1'), FULL);
    x.clear();
    typeAll(x, repeated("10", 20) + "0");
    due("full a third time", x.type('1'), FULL);
    due("loaded", x.load(), 20);
    due("room again", x.type('1'), 1);
    due("told", x.clear(), 1);
  }

  /** "Returns the length that it had": of an empty text, 0 */
  private static void clearNothing() {
    MeterPool x = new MeterPool();
    due("empty", x.clear(), 0);
    x.type('1');
    due("one", x.clear(), 1);
    due("empty again", x.clear(), 0);
    due("no state", x.count(5), 0);
  }

  /** "and the text is not a whole list, its length": the empty text is none */
  private static void emptyTextHasAFault() {
    MeterPool x = new MeterPool();
    due("new", x.fault(), 0);
    due("load", x.load(), STATE);
    x.type('5');
    due("a list", x.fault(), NONE);
    x.clear();
    due("cleared", x.fault(), 0);
    due("load again", x.load(), STATE);
  }

  /** "an item is a number, 0 to 500" */
  private static void numberFrom0To500() {
    whole("0", "1", "9", "10", "99", "100", "499", "500", "500,0,500");
    broken("501", "509", "510", "600", "999", "5000", "1000", "1,501", "0*2,501");
    fault("501*", 2);
    MeterPool x = new MeterPool();
    supply(x, "0,500,499,50,5");
    row("numbers", listOf(x), 0, 500, 499, 50, 5);
  }

  /** "Numbers have no leading zeros.": 0 itself is none */
  private static void noLeadingZeros() {
    whole("0", "0,0", "100", "0*2", "101");
    broken("00", "01", "09", "5,00", "5,01", "0,00", "0*2,03");
  }

  /** "\"*\" and how often it comes, 2 to 48" */
  private static void timesFrom2To48() {
    whole("7*2", "7*9", "7*10", "7*19", "7*20", "7*47", "7*48", "0*48", "500*48");
    broken("7*0", "7*49", "7*50", "7*99", "7*1,", "7*480");
    fault("7*490", 3);
    begun("7*", "7*1");
  }

  /** "Numbers have no leading zeros.": how often it comes is one of them */
  private static void timesWithoutLeadingZeros() {
    broken("7*0");
    fault("7*00", 2);
    fault("7*02", 2);
    fault("7*010", 2);
    fault("3,7*0", 4);
    fault("3,7*02", 4);
    fault("3,7*010", 4);
    whole("7*20");
  }

  /** "2 to 48": 1 is too little, but 10 to 19 begin with it */
  private static void firstTimesMayBe1() {
    begun("7*1", "5,7*1");
    fault("7*1,2", 3);
    fault("7*1*", 3);
    for (int times = 10; times < 20; times++) {
      fault("7*" + times, NONE);
    }
  }

  /** "A list is written as items separated by \",\"" */
  private static void separatedByCommas() {
    whole("1,2", "1,2*3,4", "1*2,2*3");
    begun("1,", "1*2,", "1,2,3,");
    broken(",", "1,,", "1*2,,", "1,*");
  }

  /** The same: no other character, whichever it is, stands anywhere */
  private static void noOtherCharacters() {
    for (int code = 33; code <= 126; code++) {
      boolean digit = code >= '0' && code <= '9';
      if (!digit) {
        String c = "" + (char) code;
        fault(c, 0);
        fault("1," + c, 2);
        fault("1*" + c, 2);
        if (code != ',' && code != '*') {
          fault("1" + c, 1);
          fault("0" + c, 1);
          fault("1*2" + c, 3);
          fault("1*12" + c, 4);
        }
      }
    }
  }

  /** "and, possibly, \"*\"": once */
  private static void onlyOneStar() {
    broken("*", "1**", "1*2*", "1*12*", "1*1*");
    whole("1*2,3*4");
  }

  /** "of at most 48 numbers": just 48, and one more */
  private static void atMost48Numbers() {
    whole("1*48", "1*47,2", "1*46,2,3", "1*46,2*2", "1*24,2*24", "1*2,2*46", "1,2*47", "1*38,2*10", "1*40,2,3*7");
    broken("1*49", "1,2*48", "1*2,2*47", "1*24,2*25", "1*38,2*11", "1*40,2,3*8");
  }

  /** The same: after a "," at least one number must have room */
  private static void roomForANumber() {
    begun("1*47,", "1*46,2,", "1*46,");
    broken("1*48,", "1*47,2,", "1*46,2*2,", "1*24,2*24,", "1*46,2,3,");
  }

  /** The same: after a "*" at least two must */
  private static void roomForTimes() {
    begun("1*46,2*", "1*45,2*");
    broken("1*47,2*", "1*46,2,3*", "1*24,2*23,3*");
  }

  /** The same: a first digit may be how often it comes, or only begin it */
  private static void oneDigitOfTimes() {
    whole("1*46,2*2", "1*45,2*3", "1*39,2*9", "1*44,2*4", "1*44,2*3");
    broken("1*46,2*3", "1*45,2*4", "1*44,2*5", "1*40,2*9", "1*39,2*1", "1*46,2*1", "1*43,2*6");
    begun("1*38,2*1");
    whole("1*38,2*10");
    broken("1*38,2*11", "1*37,2*12", "1*28,2*21", "1*29,2*20");
    fault("1*28,2*20", NONE);
    fault("1*29,2*2", NONE);
  }

  /** The same with as many items as a text has room for */
  private static void manyItems() {
    fault(repeated("1", 30), NONE);
    fault(repeated("1", 30) + ",", 60);
    fault(repeated("1*2", 15), NONE);
    fault(repeated("1*4", 12), NONE);
    fault(repeated("1*4", 12) + ",", 47);
    fault(repeated("1*4", 13), 47);
    fault(repeated("1*5", 9) + ",1,2,3", NONE);
    fault(repeated("1*5", 9) + ",1,2*2", NONE);
    fault(repeated("1*5", 9) + ",1,2,3,", 41);
  }

  /** "The fault of the text is the index of the first character with which ..": the first one of several */
  private static void firstCharacter() {
    fault("~~~", 0);
    fault("1~,,", 1);
    fault("1,~501", 2);
    fault("501,501", 2);
    fault("1,02,501", 3);
    fault("1*49,2*49", 3);
    fault("1*48,2*48", 4);
    fault("1*1,5", 3);
  }

  /** "if there is none, and the text is not a whole list, its length" */
  private static void itsLengthWhenNotWhole() {
    begun("", "5,", "5*", "5*1", "5*2,", "12,34,", "500*", "0*", "0,0*1");
  }

  /** The same when the text has no room for the rest: a list has no such limit */
  private static void listsDoNotEndWithTheText() {
    fault(repeated("100", 15) + ",", 60);
    fault(repeated("100", 14) + ",1,5*", 60);
    fault(repeated("100", 14) + ",1,50", NONE);
    fault(repeated("100", 14) + ",1,5,", 60);
    fault(repeated("100", 14) + ",50*1", 60);
    fault(repeated("100", 14) + ",5*19", NONE);
  }

  /** "NONE if there is no fault" */
  private static void noneIfThereIsNoFault() {
    whole("5", "5*2", "5*12", "5,6", "5*2,6");
    MeterPool x = new MeterPool();
    // Each character makes it whole or not: 5 | 50 | 50, | 50,6 | 50,6* | 50,6*1 | 50,6*12
    int[] faults = {NONE, NONE, 3, NONE, 5, 6, NONE, 7, 7};
    String text = "50,6*12~5";
    for (int i = 0; i < faults.length; i++) {
      x.type(text.charAt(i));
      due("fault of the first " + (i + 1), x.fault(), faults[i]);
    }
  }

  /** Promise 14: it finds the fault, and does nothing else */
  private static void tellsNothingElse() {
    MeterPool x = new MeterPool();
    typeAll(x, "7*3");
    long before = x.digest();
    due("fault", x.fault(), NONE);
    due("again", x.fault(), NONE);
    due("nothing changed", x.digest(), before);
    due("no state", x.count(5), 0);
    row("the list", listOf(x), 20);
    due("load", x.load(), 3);
  }

  /** "a list of 1 to 48 numbers" */
  private static void shortestAndLongestList() {
    MeterPool x = new MeterPool();
    typeAll(x, "0");
    due("one", x.load(), 1);
    row("its number", listOf(x), 0);
    typeAll(x, "1*10,2*20,3*8,4*9,500");
    due("48", x.load(), 48);
    int[] list = listOf(x);
    for (int i = 0; i < 48; i++) {
      due("number " + i, list[i], i < 10 ? 1 : i < 30 ? 2 : i < 38 ? 3 : i < 47 ? 4 : 500);
    }
    typeAll(x, "6,7");
    due("two", x.load(), 2);
    row("no more", ints(x.supply(0), x.supply(1), x.supply(2), x.supply(3), x.supply(47)), 6, 7, 6, 7, 7);
  }

  /** "STATE if the text has a fault": the list and the text stay */
  private static void loadNeedsAWholeList() {
    for (String text : new String[] {"", "5,", "5*", "5*1", "501", "5a", "1*48,", "~", "5*2,3*49", "6,6,06"}) {
      MeterPool x = new MeterPool();
      supply(x, "3,4");
      typeAll(x, text);
      due("load of " + text, x.load(), STATE);
      row("list after " + text, listOf(x), 3, 4);
      due("states after " + text, x.count(5), 1);
      due("length after " + text, x.clear(), text.length());
    }
  }

  /** "and clears the text" */
  private static void loadClears() {
    MeterPool x = new MeterPool();
    typeAll(x, "8");
    due("load", x.load(), 1);
    due("fault", x.fault(), 0);
    due("load again", x.load(), STATE);
    due("length", x.type('9'), 1);
    due("load of the new one", x.load(), 1);
    due("number", x.supply(0), 9);
  }

  /** "Makes the list in the text the supply": the same list once more is a change too */
  private static void loadAgain() {
    MeterPool x = new MeterPool();
    typeAll(x, "20");
    due("the list that there is", x.load(), 1);
    due("a state", x.count(5), 1);
    typeAll(x, "20*2");
    due("another length", x.load(), 2);
    due("undone", x.undo(), 1);
    row("the list", listOf(x), 20);
  }

  /** "This is a change.": the list comes back, the whole of it */
  private static void loadIsAChange() {
    MeterPool x = new MeterPool();
    supply(x, "1,2,3,4,5");
    supply(x, "7*40");
    due("undo", x.undo(), 1);
    row("the list before", listOf(x), 1, 2, 3, 4, 5);
    due("undo again", x.undo(), 0);
    row("the first list", listOf(x), 20);
  }

  /** "The state consists of everything but the text, ..": neither an undo nor an image brings it back */
  private static void textIsNoState() {
    MeterPool x = new MeterPool();
    typeAll(x, "1,2");
    x.keep(0);
    x.run(1);
    x.type('3');
    x.undo();
    due("fault of 1,23", x.fault(), NONE);
    due("the text stays", x.type('4'), 5);
    x.back(0);
    due("the text stays again", x.type('~'), 6);
    due("fault of 1,234~", x.fault(), 5);
    x.clear();
    typeAll(x, "6");
    x.load();
    x.undo();
    due("a text that was loaded is gone", x.fault(), 0);
    due("no character is there", x.clear(), 0);
  }
}
