/** What README.md says of the class: its example, its statements, its refused calls. */
public final class ReadmeTest {
  private static final Check CHECK = new Check("ReadmeTest");

  public static void main(String[] args) {
    example();
    statements();
    noVillage();
    refused();
    CHECK.end();
  }

  private static void example() {
    LabelsByAnotherHand x = new LabelsByAnotherHand();
    for (char c : "p0;p3;jt03091;".toCharArray()) {
      x.letter(c);
    }
    CHECK.due("village()", x.village(), 3);
    CHECK.due("person(1, 2)", x.person(1, 2), 0);
    CHECK.due("gains(0, 1)", x.gains(0, 1), -6);
    CHECK.due("label(0, 9)", x.label(0, 9), 3);
    CHECK.due("years(2)", x.years(2), 26);
  }

  private static void statements() {
    LabelsByAnotherHand x = Check.of("p0;");
    CHECK.due("a further village", Check.tell(x, "p3;jt03091;"), 2);
    CHECK.due("p3; comes behind", x.person(1, 0), 3);
    CHECK.due("p3; grace", x.person(1, 1), 20);
    int[] pot = {1, 0, 3, 0, 9, 1};
    for (int what = 0; what < pot.length; what++) {
      CHECK.due("jt03091; " + what, x.pot(0, what), pot[what]);
    }
    Check.tell(x, "l06;");
    CHECK.due("l06;", x.pot(0, 3), 6);
    x.gives(0, 0);
    Check.tell(x, "g01;");
    CHECK.due("g01;", x.pot(0, 5), 1);
    Check.tell(x, "k05;");
    CHECK.due("k05;", x.person(0, 0), 5);
    Check.tell(x, "f04;");
    CHECK.due("f04;", x.pot(0, 4), 4);
    Check.tell(x, "y07;");
    CHECK.due("y07;", x.count(2), 7);
  }

  private static void noVillage() {
    LabelsByAnotherHand x = new LabelsByAnotherHand();
    CHECK.due("a letter that can't stand there", Check.tell(x, "p0;px;"), -1004);
    CHECK.due("letters are gone", x.count(7), 0);
    CHECK.due("a statement that can't be obeyed", Check.tell(x, "p0;p6;"), -2003);
    CHECK.due("letters are gone", x.count(7), 0);
    CHECK.due("nothing of it comes", x.count(1), 0);
    for (int what = 11; what <= 16; what++) {
      CHECK.due("not counted " + what, x.count(what), 0);
    }
  }

  private static void refused() {
    LabelsByAnotherHand x = Check.of("p0;p3;jt03091;");
    CHECK.due("no such pot", x.pot(1, 0), -1);
    CHECK.due("one told twice", x.two(0, 0, 1), -1);
    CHECK.due("no such what", x.pot(0, 6), -2);
    CHECK.due("it is not as it must be", x.on(), -3);
    CHECK.due("below the least", x.years(0), -4);
    CHECK.due("above the greatest", x.years(61), -6);
    CHECK.due("the first that fits", x.pot(1, 6), -1);
    CHECK.due("gains", x.gains(1, 0), 1000000001);
    CHECK.due("audit", x.audit(31, 0), 1000000006);
    CHECK.due("deal", x.deal(-2), 1000000004);
    CHECK.due("worst", x.worst(2), 1000000002);
    CHECK.due("errs", x.errs(2, 0, 2, 0, 0), 4000000000000000001L);
    CHECK.due("mean", x.mean(2), 4000000000000000002L);
    CHECK.due("none is no refusal", x.person(0, 2), -9);
    int[] told = {5, 3, 1, 2, 0, 2};
    for (int i = 0; i < told.length; i++) {
      CHECK.due("count(" + (11 + i) + ")", x.count(11 + i), told[i]);
    }
    CHECK.due("nothing changes but these", x.count(2), 0);
  }
}
