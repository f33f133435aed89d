// Counts the answers that are not due, prints each of them, and ends the test with exit code 1 if there was one.
final class Check {
  // A call whose answer, or whose exception, is looked at.
  interface Call {
    Object answer();
  }

  private final String test;
  private int looked = 0;
  private int wrong = 0;

  Check(String test) {
    this.test = test;
  }

  // The answer that is due, or the class of the exception that is due; int and long, float and double are told apart.
  void due(String what, Object due, Call call) {
    looked++;
    Object got = outcome(call);
    if (!due.equals(got)) {
      wrong++;
      System.out.println(test + ": " + what + " answered " + got + ", due is " + due);
    }
  }

  static Object outcome(Call call) {
    try {
      return call.answer();
    } catch (RuntimeException e) {
      return e.getClass();
    }
  }

  void end() {
    System.out.println(test + ": " + looked + " answers, " + wrong + " not due");
    if (wrong > 0 || looked == 0) {
      System.exit(1);
    }
  }
}
