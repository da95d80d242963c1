/** Compares answers with those that are due, prints every other one, and tells at the end whether there was one. */
final class Check {
  private int compared = 0;
  private int wrong = 0;

  void due(String call, long got, long want) {
    compared++;
    if (got != want) {
      tell(call + " answered " + got + ", due is " + want);
    }
  }

  void dueDouble(String call, double got, double want) {
    compared++;
    if (Double.doubleToLongBits(got) != Double.doubleToLongBits(want)) {
      tell(call + " answered " + got + ", due is " + want);
    }
  }

  void holds(String what, boolean itDoes) {
    compared++;
    if (!itDoes) {
      tell(what + " does not hold");
    }
  }

  /** A test that goes wrong everywhere need not print everything. */
  private void tell(String line) {
    wrong++;
    if (wrong <= 40) {
      System.out.println(line);
    }
  }

  boolean anyWrong() {
    return wrong > 0;
  }

  void end() {
    System.out.println(compared + " answers, " + wrong + " not as due");
    if (wrong > 0) {
      System.exit(1);
    }
  }
}
