/** What all tests share: they compare answers, count those that are wrong, and end with 1 if there was one. */
final class Check {
  /** A call that may throw. */
  interface Call {
    void make();
  }

  private static int wrong = 0;
  private static int made = 0;

  private Check() {}

  static void due(String what, long got, long want) {
    made++;
    if (got == want) return;
    wrong++;
    System.out.println(what + ": answered " + got + ", due is " + want);
  }

  static void dueReal(String what, double got, double want) {
    made++;
    if (got == want) return;
    wrong++;
    System.out.println(what + ": answered " + got + ", due is " + want);
  }

  static void dueText(String what, String got, String want) {
    made++;
    if (got.equals(want)) return;
    wrong++;
    System.out.println(what + ": answered\n" + got + "\ndue is\n" + want);
  }

  static void isTrue(String what, boolean is) {
    due(what, is ? 1 : 0, 1);
  }

  /** The exception must be of just this class: those of the machine are of classes below it. */
  static void throwing(String what, Class<? extends RuntimeException> due, Call call) {
    made++;
    String got = "nothing";
    try {
      call.make();
    } catch (RuntimeException thrown) {
      if (thrown.getClass() == due) return;
      got = thrown.toString();
    }
    wrong++;
    System.out.println(what + ": threw " + got + ", due is " + due.getSimpleName());
  }

  static void noIndex(String what, Call call) {
    throwing(what, IndexOutOfBoundsException.class, call);
  }

  static void noArgument(String what, Call call) {
    throwing(what, IllegalArgumentException.class, call);
  }

  static void noState(String what, Call call) {
    throwing(what, IllegalStateException.class, call);
  }

  static void end() {
    System.out.println(wrong == 0 ? made + " answers are as due" : wrong + " of " + made + " answers are wrong");
    if (wrong != 0) System.exit(1);
  }
}
