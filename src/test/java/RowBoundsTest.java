/** Promises 34 to 40 at their bounds: the ROW, what it tells, LOTS, THE IMAGE. */
public final class RowBoundsTest {
  private static final Check CHECK = new Check("RowBoundsTest");

  private static void due(String what, long got, long want) {
    CHECK.due(what, got, want);
  }

  public static void main(String[] args) {
    whatInByNoRow();
    whatInBySixteen();
    whatInAtGraceBounds();
    whatInRefused();
    rowAtBounds();
    judgeAtBounds();
    judgeSixteen();
    clearAtBounds();
    lotsAtBounds();
    lotsBySeeds();
    lotsByDraws();
    lotsOneBehindAnother();
    imageOfNothing();
    imageOfAllFull();
    imageKeepsOthers();
    CHECK.end();
  }

  private static void row(LabelsByAnotherHand x, int... numbers) {
    for (int v : numbers) {
      x.row(v);
    }
  }

  private static void whatInByNoRow() {
    LabelsByAnotherHand x = Check.of("p0;" + "jj00010;".repeat(8));
    due("34: sorts by no row", x.whatIn(0, 0), 63);
    due("34: kinds by no row", x.whatIn(7, 1), 63);
    row(x, 20);
    due("34: sorts by now", x.whatIn(7, 0), 63);
    due("34: kinds by now", x.whatIn(0, 1), 63);
    x.clear();
    row(x, 21);
    due("34: sorts, not so now", x.whatIn(0, 0), 0);
    due("34: kinds, not so now", x.whatIn(0, 1), 0);
    due("34: an empty pot holds anything", emptyPot(20, 19, 18).whatIn(0, 0), 63);
    due("34: an empty pot is of any kind", emptyPot(20, 19, 18).whatIn(0, 1), 63);
    due("34: an empty pot, not so", emptyPot(20, 19, 19).whatIn(0, 0), 0);
  }

  private static LabelsByAnotherHand emptyPot(int... numbers) {
    LabelsByAnotherHand x = Check.of("p0;jj00000;");
    row(x, numbers);
    return x;
  }

  private static void whatInBySixteen() {
    // 15 years: 9 and then 6 spoons.
    LabelsByAnotherHand x = Check.of("p0;jj00090;jj05690;");
    for (int i = 0; i <= 9; i++) {
      x.row(20 + 2 * i);
    }
    for (int i = 10; i <= 14; i++) {
      x.row(38 - (i - 9));
    }
    due("34: 15 of them", x.whatIn(0, 0), 1);
    // Without a LABEL it is 1 off, whatever it holds.
    due("34: the other's sorts", x.whatIn(1, 0), 63);
    due("34: the other's kinds: j and s", x.whatIn(1, 1), 1 + 4);
    x.row(32);
    due("34: 16 of them", x.whatIn(0, 0), 1);
    due("34: 16 of them, the other's", x.whatIn(1, 0), 63);
    due("34: they stay", x.count(6), 16);
    LabelsByAnotherHand wrong = Check.of("p0;jj00090;jj05690;");
    for (int i = 0; i < 15; i++) {
      wrong.row(i <= 9 ? 20 + 2 * i : 38 - (i - 9));
    }
    wrong.row(31);
    due("34: the 16th is not so", wrong.whatIn(0, 0), 0);
    due("34: the 16th is not so, the other's", wrong.whatIn(1, 1), 0);
  }

  private static void whatInAtGraceBounds() {
    LabelsByAnotherHand least = Check.of("p0;y20;jj00090;");
    row(least, 0, 0, 0);
    due("34: held at 0: all but what is so", least.whatIn(0, 0), 62);
    // Only honest ones gain; there they all do.
    due("34: held at 0: no kind", least.whatIn(0, 1), 0);
    LabelsByAnotherHand most = Check.of("p0;jt00090;jt00090;jt00090;y20;");
    most.fills(0, 9);
    row(most, 99, 99);
    due("34: held at 99: what is so", most.whatIn(0, 0), 1);
    due("34: held at 99: all kinds", most.whatIn(0, 1), 63);
    // One year with 5 to 0: holds 5 labelled 0 is 1 off.
    LabelsByAnotherHand round = Check.of("p0;jj00090;");
    row(round, 20, 19);
    due("34: 1 off 0: 1 and 5", round.whatIn(0, 0), 2 + 32);
    round.clear();
    row(round, 20, 17);
    due("34: 3 off 0: 3", round.whatIn(0, 0), 8);
  }

  private static void whatInRefused() {
    LabelsByAnotherHand x = Check.of("p0;" + "jj00010;".repeat(8));
    due("34: what 2", x.whatIn(7, 2), -2);
    due("34: what -1", x.whatIn(7, -1), -2);
    due("34: pot 8", x.whatIn(8, 0), -1);
    due("34: pot -1", x.whatIn(-1, 0), -1);
    due("34: pot 8, what 2", x.whatIn(8, 2), -1);
    due("34: how many -1", x.count(11), 3);
    due("34: how many -2", x.count(12), 2);
  }

  private static void rowAtBounds() {
    LabelsByAnotherHand x = new LabelsByAnotherHand();
    due("35: -1", x.row(-1), -4);
    due("35: 100", x.row(100), -6);
    due("35: none yet", x.count(6), 0);
    due("35: 0", x.row(0), 1);
    due("35: 99", x.row(99), 2);
    for (int many = 3; many <= 16; many++) {
      due("35: row " + many, x.row(many), many);
    }
    due("35: a 17th", x.row(0), -6);
    due("35: a 17th, 99", x.row(99), -6);
    due("35: a 17th, 100", x.row(100), -6);
    due("35: a 17th, -1", x.row(-1), -4);
    due("35: 16 stay", x.count(6), 16);
    due("35: how many -4", x.count(14), 2);
    due("35: how many -6", x.count(16), 4);
    x.clear();
    due("35: room again", x.row(5), 1);
  }

  private static void judgeAtBounds() {
    due("36: no row, no pots", new LabelsByAnotherHand().judge(), -9);
    due("36: no row", Check.of("p0;jj00010;").judge(), -9);
    LabelsByAnotherHand none = new LabelsByAnotherHand();
    row(none, 0);
    due("36: none there", none.judge(), 0);
    due("36: the row has none then", none.count(6), 0);
    LabelsByAnotherHand x = Check.of("p0;jj00000;jj00100;jj00200;jj00300;jj00400;jj00500;"
        + "jj00600;jj00000;");
    row(x, 0, 1, 2, 3, 4, 5, 6, 0);
    due("36: all 8 are so", x.judge(), -9);
    due("36: the row has none then, either", x.count(6), 0);
    for (int wrong = 0; wrong <= 7; wrong++) {
      int[] told = {0, 1, 2, 3, 4, 5, 6, 0};
      told[wrong] = wrong == 6 ? 7 : 99;
      row(x, told);
      due("36: wrong is " + wrong, x.judge(), wrong);
    }
    row(x, 0, 1, 2, 3, 4, 5, 6, 0, 0);
    due("36: a ninth is not there", x.judge(), 8);
    row(x, 0, 1, 2, 3, 4, 5, 0, 1);
    due("36: a sort where there is none", x.judge(), 6);
    row(x, 0, 1, 6, 3, 4, 5);
    due("36: none where there is a sort", x.judge(), 2);
    row(x, 0, 1, 2);
    due("36: fewer than pots", x.judge(), -9);
    row(x, 1, 1, 0, 9);
    due("36: the first of several", x.judge(), 0);
  }

  private static void judgeSixteen() {
    LabelsByAnotherHand x = Villages.allFull();
    due("36: 16 in the row of 8 pots", x.judge(), 8);
    due("36: none then", x.count(6), 0);
    due("36: not refused", x.count(11), 0);
    due("36: room again", x.row(99), 1);
  }

  private static void clearAtBounds() {
    LabelsByAnotherHand x = new LabelsByAnotherHand();
    for (int many = 0; many <= 16; many++) {
      for (int i = 0; i < many; i++) {
        x.row(i);
      }
      due("37: clear of " + many, x.clear(), many);
      due("37: none then", x.count(6), 0);
    }
    due("37: of none", x.clear(), 0);
  }

  private static void lotsAtBounds() {
    due("38: nothing, grace", new LabelsByAnotherHand().lots(20, 1, 0), 0);
    due("38: nothing, at 0", new LabelsByAnotherHand().lots(20, 1, 1), 0);
    LabelsByAnotherHand x = Check.of("p0;p0;p0;p0;p0;");
    for (int n = 1; n <= 20; n++) {
      due("38: n " + n, x.lots(n, 7, 0), n * 5 * 14);
      due("38: n " + n + ", at 0", x.lots(n, 7, 1), 0);
    }
    due("38: n 0", x.lots(0, 7, 0), -4);
    due("38: n 21", x.lots(21, 7, 0), -6);
    due("38: what 2", x.lots(1, 7, 2), -2);
    due("38: what -1", x.lots(20, 7, -1), -2);
    due("38: n 0, what 2", x.lots(0, 7, 2), -4);
    due("38: n 21, what 2", x.lots(21, 7, 2), -6);
    x.years(13);
    due("38: 7 less 6", x.lots(20, 7, 0), 20 * 5);
    due("38: 1 is not 0", x.lots(20, 7, 1), 0);
    x.years(1);
    due("38: 6 less 6", x.lots(20, 7, 0), 0);
    due("38: 0 of each, of each village", x.lots(20, 7, 1), 20 * 5);
  }

  /** A DRAW leaves the sign's bit out: with it or without, a seed draws the same. */
  private static void lotsBySeeds() {
    int[] seeds = {0, -1, 1, 255, 256, 1013904223, -1133579425, 12345};
    LabelsByAnotherHand x = Check.of("p0;p3;jj00000;jt02330;ja93341;");
    for (int z : seeds) {
      for (int what = 0; what <= 1; what++) {
        due("38: seed " + z + ", its sign's bit turned", x.lots(20, z ^ Integer.MIN_VALUE, what),
            x.lots(20, z, what));
      }
    }
    // From 0: label 5, 7 spoons: 6 that are 1 off. From -1: no spoons.
    LabelsByAnotherHand one = Check.of("p0;jj00000;");
    due("38: seed 0", one.lots(1, 0, 0), 14);
    due("38: the least seed", one.lots(1, Integer.MIN_VALUE, 0), 14);
    due("38: seed -1", one.lots(1, -1, 0), 14);
    due("38: the greatest seed, two villages", one.lots(2, Integer.MAX_VALUE, 0), 14 + 8);
    due("38: the same seed, the same lots", one.lots(2, Integer.MAX_VALUE, 0), 14 + 8);
  }

  /** Every LABEL and every FULL is drawn; JAM that holds 0 and one that holds 2 tell which. */
  private static void lotsByDraws() {
    // The seed, the label and the spoons that are drawn first from it.
    int[][] drawn = {
      {0, 5, 7}, {-1, 6, 0}, {1, 4, 3}, {Integer.MAX_VALUE, 6, 0}, {Integer.MIN_VALUE, 5, 7},
      {3, 2, 9}, {4, 1, 5}, {5, 0, 2}, {8, 4, 4}, {9, 3, 1}, {14, 6, 6}, {20, 0, 8}
    };
    int[] gainedBy0 = {2, -1, -2, -3, -2, -1, -1};
    int[] gainedBy2 = {-2, -1, 2, -1, -2, -3, -1};
    LabelsByAnotherHand holds0 = Check.of("p0;jj00000;");
    LabelsByAnotherHand holds2 = Check.of("p0;jj02000;");
    for (int[] one : drawn) {
      int opened = Math.min(6, one[2]);
      int rest = 20 - (6 - opened);
      due("38: seed " + one[0] + ", holds 0", holds0.lots(1, one[0], 0),
          rest + opened * gainedBy0[one[1]]);
      due("38: seed " + one[0] + ", holds 2", holds2.lots(1, one[0], 0),
          rest + opened * gainedBy2[one[1]]);
    }
  }

  /** POTS by numbers, each its LABEL and then its FULL; the next village goes on with the seed. */
  private static void lotsOneBehindAnother() {
    // From 3: 2, 9; 2, 3. Then 4, 8; 3, 6.
    LabelsByAnotherHand x = Check.of("p0;p0;jj02000;jj03001;");
    due("38: 6 honest; 3 that are 1 off, 3 without", x.lots(1, 3, 0), 32 + 14);
    due("38: then 6 that are 2 off; 6 honest", x.lots(2, 3, 0), 32 + 14 + 8 + 32);
    due("38: nobody at 0", x.lots(2, 3, 1), 0);
    // From 5: 0, 2; then 0, 7. From 20: 0, 8; then 3, 2.
    LabelsByAnotherHand anvil = Check.of("p0;ja93000;");
    due("38: 2 of 10 make 0", anvil.lots(1, 5, 1), 1);
    due("38: and in the next", anvil.lots(2, 5, 1), 2);
    due("38: not if it is honest", anvil.lots(2, 20, 1), 1);
    due("38: then there is 20 and 8 less 4", anvil.lots(2, 20, 0), 24);
  }

  private static void imageOfNothing() {
    LabelsByAnotherHand x = new LabelsByAnotherHand();
    due("40: there is none", x.on(), -3);
    due("40: counted", x.count(13), 1);
    due("39: of nothing", x.image(), 0);
    Check.tell(x, "p0;jj00090;y60;");
    due("40: on", x.on(), 0);
    for (int what = 0; what <= 5; what++) {
      due("40: count(" + what + ")", x.count(what), 0);
    }
    due("40: no pot", x.pot(0, 0), -1);
    due("40: nobody", x.person(0, 0), -1);
    due("40: the image stays", x.on(), 0);
    due("40: there is room", Check.tell(x, "p5;jb95690;"), 2);
    due("40: the first of people", x.person(0, 0), 5);
    due("40: his grace is 20", x.person(0, 1), 20);
    due("40: how many -3", x.count(13), 1);
  }

  private static void imageOfAllFull() {
    LabelsByAnotherHand x = Check.of(Villages.MOST);
    Villages.goOn(x, 999);
    x.fills(7, 9);
    due("39: year 999", x.image(), 999);
    x.fills(7, 0);
    for (int pot = 0; pot <= 7; pot++) {
      x.labels(pot, 6);
      x.gives(pot, 4);
      x.turn(pot, 5, 9);
    }
    due("40: year 999", x.on(), 999);
    due("40: 8 pots", x.count(0), 8);
    due("40: 5 people", x.count(1), 5);
    due("40: spoons", x.count(4), 9);
    int[] label = {0, 5, 6, 0, 2, 4, 1, 0};
    int[] owner = {0, 1, 2, 3, 4, 0, 1, 2};
    int[] kind = {1, 1, 2, 3, 4, 1, 0, 1};
    for (int pot = 0; pot <= 7; pot++) {
      due("40: label of " + pot, x.pot(pot, 3), label[pot]);
      due("40: owner of " + pot, x.pot(pot, 5), owner[pot]);
      due("40: kind of " + pot, x.pot(pot, 0), kind[pot]);
    }
    due("40: no room still", Check.tell(x, "p0;"), -2000);
  }

  /** The ROW, letters and REFUSALS are no part of THE IMAGE. */
  private static void imageKeepsOthers() {
    LabelsByAnotherHand x = Check.of("p0;jj00190;");
    row(x, 1);
    Check.letters(x, "p1;");
    x.pot(9, 9);
    x.image();
    row(x, 2, 3);
    Check.letters(x, "p2;");
    x.pot(9, 9);
    x.on();
    due("40: the row stays", x.count(6), 3);
    due("40: letters stay", x.count(7), 6);
    due("40: refusals stay", x.count(11), 2);
    due("40: letters are what they were", x.village(), 2);
    due("40: the last told", x.person(2, 0), 2);
    due("40: the row is what it was", x.judge(), 1);
    due("40: one again", x.on() + x.count(1), 1);
    x.years(1);
    due("39: a second image", x.image(), 1);
    due("40: on from the second", x.on(), 1);
    due("40: its grace", x.person(0, 1), 19);
  }
}
