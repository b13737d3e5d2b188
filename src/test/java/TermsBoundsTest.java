/** The bounds of 'Terms' that promises speak of: SORTS go round, KINDS, who OPENS what, a YEAR. */
public final class TermsBoundsTest {
  private static final Check CHECK = new Check("TermsBoundsTest");

  /** How far two SORTS are OFF, round from 5 to 0. */
  private static final int[][] OFF = {
    {0, 1, 2, 3, 2, 1},
    {1, 0, 1, 2, 3, 2},
    {2, 1, 0, 1, 2, 3},
    {3, 2, 1, 0, 1, 2},
    {2, 3, 2, 1, 0, 1},
    {1, 2, 3, 2, 1, 0}
  };
  private static final int[] FIGURE_BY_2 = {0, 0, 1, 1, 2, 2, 3, 3, 4, 4};
  private static final int[] FIGURE_BY_4 = {0, 0, 0, 0, 1, 1, 1, 1, 2, 2};
  /** d is 0, 1, 2, 3; without a LABEL. */
  private static final int[] AS_JAM = {2, -1, -2, -3, -1};
  private static final int[] AS_TIN = {4, -2, -4, -6, -2};

  private static void due(String what, long got, long want) {
    CHECK.due(what, got, want);
  }

  public static void main(String[] args) {
    offItsLabel();
    offWhatHeLikes();
    offWhenOpening();
    figures();
    leastAndMostGained();
    opensFullOnes();
    opensTheLeast();
    graceHeldAt99();
    graceHeldAt0();
    whoHasNone();
    oneYearForAll();
    errorsGoRound();
    CHECK.end();
  }

  private static void offItsLabel() {
    for (int holds = 0; holds <= 5; holds++) {
      for (int label = 0; label <= 5; label++) {
        LabelsByAnotherHand x = Check.of("p0;jj0" + holds + label + "90;");
        int off = OFF[holds][label];
        due("6: " + holds + " labelled " + label, x.gains(0, 0), off == 0 ? 2 : -off);
      }
    }
  }

  private static void offWhatHeLikes() {
    for (int holds = 0; holds <= 5; holds++) {
      for (int likes = 0; likes <= 5; likes++) {
        LabelsByAnotherHand x = Check.of("p" + likes + ";jb0" + holds + holds + "90;");
        due("6: " + holds + " to one who likes " + likes, x.gains(0, 0), 2 - OFF[holds][likes]);
      }
    }
  }

  /** A POT without a LABEL beside it counts as 2 OFF; alike, the lesser number is OPENED. */
  private static void offWhenOpening() {
    for (int label = 0; label <= 5; label++) {
      for (int likes = 0; likes <= 5; likes++) {
        int off = OFF[label][likes];
        String labelled = "jj00" + label + "90;";
        String what = label + " to one who likes " + likes;
        due("5: behind none, " + what,
            Check.of("p" + likes + ";jj00690;" + labelled).person(0, 2), off < 2 ? 1 : 0);
        due("5: ahead of none, " + what,
            Check.of("p" + likes + ";" + labelled + "jj00690;").person(0, 2), off <= 2 ? 0 : 1);
      }
    }
  }

  private static void figures() {
    for (int figure = 0; figure <= 9; figure++) {
      LabelsByAnotherHand x = Check.of("p0;jj00000;");
      for (int d = 0; d <= 4; d++) {
        x.labels(0, d == 4 ? 6 : d);
        int sweet = AS_JAM[d] + FIGURE_BY_4[figure];
        int anvil = d == 2 || d == 3 ? AS_TIN[d] - FIGURE_BY_2[figure] : AS_TIN[d];
        int[] gained = {AS_JAM[d], AS_TIN[d], sweet, anvil, Math.max(0, sweet), AS_JAM[d]};
        for (int kind = 0; kind <= 5; kind++) {
          x.turn(0, kind, figure);
          due("6: kind " + kind + ", figure " + figure + ", d " + d, x.gains(0, 0), gained[kind]);
        }
      }
    }
  }

  private static void leastAndMostGained() {
    due("6: an anvil's least", Check.of("p0;ja93000;").gains(0, 0), -10);
    due("6: an anvil, figure 1", Check.of("p0;ja13000;").gains(0, 0), -6);
    due("6: an anvil, d is 1", Check.of("p0;ja91000;").gains(0, 0), -2);
    due("6: an anvil, d is 2", Check.of("p0;ja92000;").gains(0, 0), -8);
    due("6: a tin's most", Check.of("p0;jt90000;").gains(0, 0), 4);
    due("6: a sweet one's most", Check.of("p0;js80000;").gains(0, 0), 4);
    due("6: honey's least", Check.of("p0;jh03000;").gains(0, 0), 0);
    due("6: honey, -1 and 1", Check.of("p0;jh41000;").gains(0, 0), 0);
    due("6: honey, -1 and 2", Check.of("p0;jh81000;").gains(0, 0), 1);
    due("6: a bitter one's least", Check.of("p0;jb03000;").gains(0, 0), -6);
    due("6: a bitter one without a label", Check.of("p0;jb03600;").gains(0, 0), -4);
  }

  private static void opensFullOnes() {
    LabelsByAnotherHand x = Check.of("p0;p0;jj00010;jj00110;jj00091;");
    due("5: full 1", x.person(0, 2), 0);
    x.fills(0, 0);
    due("5: full 0", x.person(0, 2), 1);
    x.fills(1, 0);
    due("5: none is full", x.person(0, 2), -9);
    due("5: not another's", x.person(1, 2), 2);
    due("5: without pots", Check.of("p0;").person(0, 2), -9);
  }

  private static void opensTheLeast() {
    LabelsByAnotherHand x = Check.of("p0;" + "jj00310;".repeat(7) + "jj00210;");
    due("5: the last is least off", x.person(0, 2), 7);
    x.labels(7, 3);
    due("5: all 3 off: the first", x.person(0, 2), 0);
    x.labels(7, 6);
    due("5: none is 2 off", x.person(0, 2), 7);
    x.labels(3, 4);
    due("5: round, 2 off, the lesser number", x.person(0, 2), 3);
    x.labels(6, 5);
    due("5: round, 1 off", x.person(0, 2), 6);
  }

  private static void graceHeldAt99() {
    // 19 spoons of 4 make 96.
    String tins = "p0;jt00090;jt00090;jt00010;";
    LabelsByAnotherHand just = Check.of(tins + "js40010;");
    due("12: 96", just.years(19), 96);
    due("12: 96 and 3 are just 99", just.years(1), 99);
    due("12: then 1 less", just.years(1), 98);
    LabelsByAnotherHand over = Check.of(tins + "jt00010;jt01110;");
    due("12: 96 and 4 are held", over.years(20), 99);
    due("12: 99 and 4 are held", over.years(1), 99);
    due("12: 1 less than 99, not than more", over.years(1), 98);
    LabelsByAnotherHand under = Check.of(tins + "jj00010;jj00010;");
    due("12: 96 and 2", under.years(20), 98);
    due("12: 98 and 2 are held", under.years(1), 99);
    LabelsByAnotherHand zero = Check.of(tins + "js40010;jh00110;");
    due("12: 99 and 0", zero.years(21), 99);
    due("13: in mind, held", over.personThen(0, 0, 0), 98);
    due("13: in mind, 20 years", Check.of(tins + "jt00010;").personThen(0, 20, 0), 99);
    due("13: in mind, 21 years", Check.of(tins + "jt00010;").personThen(0, 21, 0), 98);
  }

  private static void graceHeldAt0() {
    LabelsByAnotherHand just = Check.of("p0;ja93090;");
    due("12: 10", just.years(1), 10);
    due("12: just 0", just.years(1), 0);
    due("12: 0 less 10 is held", just.years(1), 0);
    just.labels(0, 3);
    due("12: 4 more than 0, not than less", just.years(1), 4);
    LabelsByAnotherHand under = Check.of("p0;ja53030;jt00010;");
    due("12: 20, 12, 4", Check.of("p0;ja53020;y02;").person(0, 1), 4);
    under.labels(1, 1);
    due("12: 4 less 8 is held", under.years(3), 0);
    under.labels(1, 0);
    due("12: 4 again", under.years(1), 4);
  }

  private static void whoHasNone() {
    LabelsByAnotherHand x = Check.of("p0;jj00000;");
    due("12: 19 years without", x.years(19), 1);
    due("12: 20 years", x.years(1), 0);
    due("12: 21 years", x.years(1), 0);
    due("12: 81 years", x.years(60), 0);
    due("12: an empty pot stays so", x.pot(0, 4), 0);
  }

  private static void oneYearForAll() {
    LabelsByAnotherHand x = Check.of("p0;p1;p2;p3;p4;jj00010;jt01121;js82232;ja93013;");
    due("12: 22, 24, 24, 10, 19", x.years(1), 99);
    int[] grace = {22, 24, 24, 10, 19};
    int[] full = {0, 1, 2, 0};
    for (int person = 0; person < 5; person++) {
      due("12: grace of " + person, x.person(person, 1), grace[person]);
    }
    for (int pot = 0; pot < 4; pot++) {
      due("12: full " + pot, x.pot(pot, 4), full[pot]);
    }
    due("12: year", x.count(2), 1);
    Villages.goOn(x, 60);
    due("12: all are without", x.count(3), 0);
    due("12: nothing is left", x.count(4), 0);
  }

  /** One on: 0 becomes 1, .. 5 becomes 0; none stay so. What is 1 OFF in it tells which. */
  private static void errorsGoRound() {
    int[] oneOn = {1, 2, 3, 4, 5, 0};
    for (int label = 0; label <= 5; label++) {
      for (int holds = 0; holds <= 5; holds++) {
        LabelsByAnotherHand x = Check.of("p0;jj0" + holds + label + "10;");
        int as = OFF[holds][oneOn[label]] == 0 ? 1 : 0;
        int now = OFF[holds][label] == 0 ? 1 : 0;
        String what = "32: " + holds + " labelled " + label;
        // 1 in 3 it errs, 2 in 3 it doesn't.
        due(what + ", above", x.errs(0, 1, 3, 22, 0), as + 2 * now);
        due(what + ", below", x.errs(0, 1, 3, 22, 1), as + now == 0 ? 1 : 3);
      }
    }
    for (int holds = 0; holds <= 5; holds++) {
      LabelsByAnotherHand x = Check.of("p0;jj0" + holds + "610;");
      due("32: none stay so, 19", x.errs(0, 1, 3, 19, 0), 1);
      due("32: none stay so, 20", x.errs(0, 1, 3, 20, 0), 0);
    }
    // From 4 over 5 to 0. Two errors: 21 (1 of 9); one, none: 18 (2); none, one: 17 (2); none: 16.
    LabelsByAnotherHand round = Check.of("p0;jj00490;");
    int[][] due = {{22, 0, 1}, {21, 1, 9}, {19, 1, 9}, {18, 1, 3}, {17, 5, 9}, {16, 1, 1}};
    for (int[] one : due) {
      due("32: " + one[0] + " or more, above", round.errs(0, 2, 3, one[0], 0), one[1]);
      due("32: " + one[0] + " or more, below", round.errs(0, 2, 3, one[0], 1), one[2]);
    }
  }
}
