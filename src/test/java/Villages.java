/** The villages in which bounds are looked at: with nothing, with some, and all full. */
final class Villages {
  /** 5 PEOPLE, 8 POTS: 79 letters. */
  static final String MOST = "p0;p1;p2;p3;p4;"
      + "jt00090;jt55591;js43682;ja93073;jh82264;jt14450;jj91111;jt60012;";

  /** 24 STATEMENTS, which are 96 letters. */
  static final String LONGEST = "l01;l10;l25;l34;l43;l52;l66;l75;"
      + "f08;f17;f26;f35;f44;f53;f62;f71;k04;k13;k22;k31;k40;g00;g71;g64;";

  private Villages() {
  }

  static Twins bare() {
    return new Twins("nothing", LabelsByAnotherHand::new, "p0;");
  }

  static Twins some() {
    return new Twins("some", () -> {
      LabelsByAnotherHand x = Check.of("p0;p3;jj00130;jt52441;ja83021;jb14500;");
      x.image();
      x.years(2);
      Check.letters(x, "p5;l0");
      x.row(x.pot(0, 3));
      x.row(x.pot(1, 3));
      return x;
    }, "4;");
  }

  static Twins full() {
    return new Twins("full", Villages::allFull, "");
  }

  /** 8 POTS, 5 PEOPLE, 96 letters, 16 in the ROW, YEAR 999, one's GRACE 99 and the others' 0. */
  static LabelsByAnotherHand allFull() {
    LabelsByAnotherHand x = Check.of(MOST);
    x.image();
    goOn(x, 969);
    for (int i = 0; i < 3; i++) {
      x.fills(0, 9);
      x.fills(5, 9);
      x.years(10);
    }
    Check.letters(x, LONGEST);
    for (int i = 0; i < 16; i++) {
      x.row(i < 8 ? x.pot(i, 3) : 99);
    }
    return x;
  }

  static void goOn(LabelsByAnotherHand x, int years) {
    for (int left = years; left > 0; left -= 60) {
      x.years(Math.min(60, left));
    }
  }
}
