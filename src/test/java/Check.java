/** Counts what is as due and what is not, and tells the latter. */
final class Check {
  private final String name;
  private int right = 0;
  private int wrong = 0;

  Check(String name) {
    this.name = name;
  }

  void due(String what, long got, long want) {
    if (got == want) {
      right++;
      return;
    }
    wrong++;
    if (wrong <= 50) {
      System.out.println(name + ": " + what + " answered " + got + ", due is " + want);
    }
  }

  void holds(String what, boolean isSo) {
    due(what, isSo ? 1 : 0, 1);
  }

  void end() {
    System.out.println(name + ": " + right + " as due, " + wrong + " not");
    if (wrong != 0 || right == 0) {
      System.exit(1);
    }
  }

  static void letters(LabelsByAnotherHand x, String letters) {
    for (int i = 0; i < letters.length(); i++) {
      x.letter(letters.charAt(i));
    }
  }

  static int tell(LabelsByAnotherHand x, String letters) {
    letters(x, letters);
    return x.village();
  }

  static LabelsByAnotherHand of(String letters) {
    LabelsByAnotherHand x = new LabelsByAnotherHand();
    tell(x, letters);
    return x;
  }
}
