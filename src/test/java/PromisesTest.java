/** Promises 1 to 41, each by answers worked out by hand from the document. */
public final class PromisesTest {
  private static final Check CHECK = new Check("PromisesTest");
  private static final int FAR = 1000000000;
  private static final long FARTHEST = 4000000000000000000L;

  private static void due(String what, long got, long want) {
    CHECK.due(what, got, want);
  }

  private static LabelsByAnotherHand of(String letters) {
    return Check.of(letters);
  }

  private static int tell(LabelsByAnotherHand x, String letters) {
    return Check.tell(x, letters);
  }

  public static void main(String[] args) {
    newObject();
    letters();
    villages();
    faults();
    faultsByRoom();
    potsAndPeople();
    gains();
    changes();
    years();
    thenAsked();
    graceless();
    empties();
    bestLabel();
    honestAndAudit();
    changeGiftHeir();
    deal();
    worstAndTrust();
    shelfAndSorts();
    fewest();
    warnAndTwo();
    errsAndMean();
    whatInAndRow();
    judge();
    lots();
    imageAndOn();
    counts();
    refusalOrder();
    CHECK.end();
  }

  private static void newObject() {
    LabelsByAnotherHand x = new LabelsByAnotherHand();
    for (int what = 0; what <= 7; what++) {
      due("1: count(" + what + ")", x.count(what), 0);
    }
    for (int what = 11; what <= 16; what++) {
      due("1: count(" + what + ")", x.count(what), 0);
    }
    due("1: pot(0, 0)", x.pot(0, 0), -1);
    due("1: person(0, 0)", x.person(0, 0), -1);
    due("1: on()", x.on(), -3);
  }

  private static void letters() {
    LabelsByAnotherHand x = new LabelsByAnotherHand();
    due("2: letter(-1)", x.letter(-1), -4);
    due("2: letter(256)", x.letter(256), -6);
    due("2: letter(0)", x.letter(0), 1);
    due("2: letter(255)", x.letter(255), 2);
    for (int i = 3; i <= 96; i++) {
      due("2: letter " + i, x.letter('p'), i);
    }
    due("2: the 97th", x.letter('p'), -6);
    due("2: the 97th, below", x.letter(-1), -4);
    due("2: count(7)", x.count(7), 96);
    due("2: count(14)", x.count(14), 2);
    due("2: count(16)", x.count(16), 2);
    due("2: a letter that is none", x.village(), -1000);
    due("2: letters are no more", x.letter('p'), 1);
  }

  private static void villages() {
    LabelsByAnotherHand x = new LabelsByAnotherHand();
    due("3: p", tell(x, "p4;"), 1);
    due("3: likes", x.person(0, 0), 4);
    due("3: grace", x.person(0, 1), 20);
    due("3: kinds", tell(x, "p0;jj00000;jt11110;js22220;ja33330;jh44440;jb95691;"), 7);
    for (int kind = 0; kind < 6; kind++) {
      due("3: kind of " + kind, x.pot(kind, 0), kind);
    }
    due("3: figure", x.pot(5, 1), 9);
    due("3: holds", x.pot(5, 2), 5);
    due("3: label", x.pot(5, 3), 6);
    due("3: full", x.pot(5, 4), 9);
    due("3: owner", x.pot(5, 5), 1);
    due("3: l g k f", tell(x, "l56;l03;g01;k15;f07;"), 5);
    due("3: label set", x.pot(0, 3), 3);
    due("3: owner set", x.pot(0, 5), 1);
    due("3: likes set", x.person(1, 0), 5);
    due("3: full set", x.pot(0, 4), 7);
    due("3: y", tell(x, "y60;"), 1);
    due("3: year", x.count(2), 60);

    due("3: more letters", tell(x, "p0;p0;p0;"), 3);
    due("3: what stood behind them is no more", tell(x, "p0"), -1002);
    due("3: nor does it go on", tell(x, "l0"), -1002);

    LabelsByAnotherHand inOrder = of("p0;jj00040;y02;f05;l06;y01;");
    due("3: statements one by one, grace", inOrder.person(0, 1), 23);
    due("3: statements one by one, full", inOrder.pot(0, 4), 4);
    due("3: statements one by one, year", inOrder.count(2), 3);

    String most = "p0;p1;p2;p3;p4;jj00010;jj00010;jj00010;jj00010;jj00010;jj00010;jj00010;jj00010;";
    LabelsByAnotherHand full = new LabelsByAnotherHand();
    due("3: as much as there is room for", tell(full, most + "y01;y01;y01;p0"), -1093);
    due("3: nothing came", full.count(0), 0);
    due("3: 91 letters", tell(full, most + "y01;y01;y01;"), 16);
    due("3: 8 pots", full.count(0), 8);
    due("3: 5 people", full.count(1), 5);
    StringBuilder whole = new StringBuilder("p0;");
    for (int i = 0; i < 31; i++) {
      whole.append("p;");
    }
    LabelsByAnotherHand longest = new LabelsByAnotherHand();
    StringBuilder ninetySix = new StringBuilder();
    for (int i = 0; i < 24; i++) {
      ninetySix.append("y01;");
    }
    due("3: 96 letters", tell(longest, ninetySix.toString()), 24);
    due("3: second p lacks its digit", tell(longest, whole.toString()), -1004);
  }

  private static void faults() {
    String[] texts = {
      "", "p", "p0", "p0;p", "p;", "p00;", "P0;", "p0;;", "p6;", "p9;", "p6;x", "p6;p", "p1;p6;",
      "p0;jj00000", "p0;jx00000;", "p0;jj0000;", "p0;jj000000;", "p0;jj06000;", "p0;jj00700;",
      "p0;jj00001;", "p0;jb99999;", "jj00000;p0;", "p0;jj00000;l07;", "p0;jj00000;l10;",
      "p0;jj00000;l0;", "p0;jj00000;g01;", "p0;jj00000;g10;", "p0;k06;", "p0;k10;",
      "p0;jj00000;f10;", "p0;f00;", "f0:;", "y00;", "y61;", "y99;", "y1;", "y001;", "y60", "l00",
      "p0;jJ00000;", "jj00000;p6;", "p0;\u00e9", "p/;", "p:;", "p0;g00;"
    };
    int[] due = {
      -1000, -1001, -1002, -1004, -1001, -1002, -1000, -1003, -2000, -2000, -1003, -1004, -2003,
      -1010, -1004, -1009, -1010, -2003, -2003,
      -2003, -2003, -2000, -2011, -2011,
      -1013, -2011, -2011, -2003, -2003,
      -2011, -2003, -1002, -2000, -2000, -2000, -1002, -1003, -1003, -1003,
      -1004, -2000, -1003, -1001, -1001, -2003
    };
    due("3: as many faults", texts.length, due.length);
    for (int i = 0; i < texts.length; i++) {
      LabelsByAnotherHand x = new LabelsByAnotherHand();
      due("3: " + texts[i], tell(x, texts[i]), due[i]);
      due("3: nobody of " + texts[i], x.count(1), 0);
      due("3: no pot of " + texts[i], x.count(0), 0);
      due("3: no letter left of " + texts[i], x.count(7), 0);
      for (int what = 11; what <= 16; what++) {
        due("3: nothing counted of " + texts[i], x.count(what), 0);
      }
    }
  }

  private static void faultsByRoom() {
    LabelsByAnotherHand x = new LabelsByAnotherHand();
    due("3: six people", tell(x, "p0;p0;p0;p0;p0;p0;"), -2015);
    due("3: five people", tell(x, "p0;p0;p0;p0;p0;"), 5);
    due("3: one more", tell(x, "p0;"), -2000);
    String pots = "jj00000;jj00000;jj00000;jj00000;jj00000;jj00000;jj00000;jj00000;";
    due("3: nine pots", tell(x, pots + "jj00000;"), -2064);
    due("3: eight pots", tell(x, pots), 8);
    due("3: a pot more", tell(x, "jj00000;"), -2000);
    due("3: the ninth has no label", tell(x, "l80;"), -2000);
    due("3: the eighth has", tell(x, "l75;"), 1);
    for (int i = 0; i < 16; i++) {
      due("3: y60", tell(x, "y60;"), 1);
    }
    due("3: year 1000", tell(x, "y40;"), -2000);
    due("3: years 999, 1000", tell(x, "y39;y01;"), -2004);
    due("3: still 960", x.count(2), 960);
    due("3: year 999", tell(x, "y39;"), 1);
    due("3: it is 999", x.count(2), 999);
    due("3: no year more", tell(x, "y01;"), -2000);
  }

  private static void potsAndPeople() {
    LabelsByAnotherHand x = of("p0;p3;jj00130;jt52441;ja83021;js11601;");
    due("4: kind", x.pot(1, 0), 1);
    due("4: figure", x.pot(1, 1), 5);
    due("4: holds", x.pot(1, 2), 2);
    due("4: label", x.pot(1, 3), 4);
    due("4: none", x.pot(3, 3), 6);
    due("4: full", x.pot(1, 4), 4);
    due("4: owner", x.pot(1, 5), 1);
    due("4: pot(4, 0)", x.pot(4, 0), -1);
    due("4: pot(-1, 0)", x.pot(-1, 0), -1);
    due("4: pot(8, 9)", x.pot(8, 9), -1);
    due("4: pot(0, 6)", x.pot(0, 6), -2);
    due("4: pot(0, -1)", x.pot(0, -1), -2);
    due("5: likes", x.person(1, 0), 3);
    due("5: grace", x.person(1, 1), 20);
    due("5: opens 1, the other is 3 off", x.person(1, 2), 1);
    due("5: his pots", x.person(1, 3), 14);
    x.fills(3, 1);
    due("5: 1 off before none at all", x.person(1, 2), 1);
    x.labels(1, 1);
    due("5: of several the least", x.person(1, 2), 1);
    x.labels(1, 0);
    due("5: without a label: 2", x.person(1, 2), 3);
    x.fills(3, 0);
    due("5: of several the least again", x.person(1, 2), 1);
    x.likes(1, 5);
    due("5: round from 5 to 0", x.person(1, 2), 1);
    x.fills(1, 0);
    x.fills(2, 0);
    due("5: none is full", x.person(1, 2), -9);
    due("5: person(2, 0)", x.person(2, 0), -1);
    due("5: person(-1, 0)", x.person(-1, 0), -1);
    due("5: person(0, 4)", x.person(0, 4), -2);
    due("5: person(0, -1)", x.person(0, -1), -2);
  }

  private static void gains() {
    int[][] kindFigureThenByOff = {
      {0, 9, 2, -1, -2, -3, -1},
      {1, 9, 4, -2, -4, -6, -2},
      {2, 3, 2, -1, -2, -3, -1},
      {2, 4, 3, 0, -1, -2, 0},
      {2, 9, 4, 1, 0, -1, 1},
      {3, 1, 4, -2, -4, -6, -2},
      {3, 5, 4, -2, -6, -8, -2},
      {3, 9, 4, -2, -8, -10, -2},
      {4, 0, 2, 0, 0, 0, 0},
      {4, 9, 4, 1, 0, 0, 1},
      {5, 9, 2, -1, -2, -3, -1},
    };
    LabelsByAnotherHand x = of("p2;p5;p1;jj02000;");
    for (int[] one : kindFigureThenByOff) {
      x.turn(0, one[0], one[1]);
      for (int off = 0; off <= 4; off++) {
        String what = "6: kind " + one[0] + ", figure " + one[1] + ", off " + off;
        x.labels(0, off == 4 ? 6 : 2 + off);
        due(what, x.gains(0, 0), one[2 + off]);
        due(what + ", 3 off what he likes", x.gains(0, 1), one[2 + off] - (one[0] == 5 ? 3 : 0));
        due(what + ", 1 off what he likes", x.gains(0, 2), one[2 + off] - (one[0] == 5 ? 1 : 0));
      }
      x.labels(0, 0);
      due("6: kind " + one[0] + ", 2 off below", x.gains(0, 0), one[4]);
    }
    due("6: no such pot", x.gains(1, 0), FAR + 1);
    due("6: nobody", x.gains(0, 3), FAR + 1);
    due("6: below", x.gains(-1, -1), FAR + 1);
    due("6: counted", x.count(11), 3);
    LabelsByAnotherHand round = of("p5;jb00510;");
    due("6: 0 and 5 are one off", round.gains(0, 0), -2);
  }

  private static void changes() {
    LabelsByAnotherHand x = of("p0;p3;jj00130;");
    due("7: labels", x.labels(0, 6), 1);
    due("7: labels from none", x.labels(0, 0), 6);
    due("7: it is so", x.pot(0, 3), 0);
    due("7: label 7", x.labels(0, 7), -1);
    due("7: label -1", x.labels(0, -1), -1);
    due("7: no such pot", x.labels(1, 0), -1);
    due("7: it stays so", x.pot(0, 3), 0);
    due("8: gives", x.gives(0, 1), 0);
    due("8: it is so", x.pot(0, 5), 1);
    due("8: gives to him", x.gives(0, 1), 1);
    due("8: nobody", x.gives(0, 2), -1);
    due("8: nobody below", x.gives(0, -1), -1);
    due("8: no such pot", x.gives(-1, 0), -1);
    due("9: likes", x.likes(1, 5), 3);
    due("9: it is so", x.person(1, 0), 5);
    due("9: sort 6", x.likes(1, 6), -1);
    due("9: sort -1", x.likes(1, -1), -1);
    due("9: nobody", x.likes(2, 0), -1);
    due("10: fills", x.fills(0, 9), 3);
    due("10: it is so", x.pot(0, 4), 9);
    due("10: fills 0", x.fills(0, 0), 9);
    due("10: above", x.fills(0, 10), -6);
    due("10: below", x.fills(0, -1), -4);
    due("10: no such pot", x.fills(1, 10), -1);
    due("11: turn", x.turn(0, 5, 9), 0);
    due("11: turn back", x.turn(0, 1, 0), 59);
    due("11: kind", x.pot(0, 0), 1);
    due("11: figure", x.pot(0, 1), 0);
    due("11: kind 6", x.turn(0, 6, -1), -2);
    due("11: kind -1", x.turn(0, -1, 10), -2);
    due("11: figure -1", x.turn(0, 0, -1), -4);
    due("11: figure 10", x.turn(0, 0, 10), -6);
    due("11: no such pot", x.turn(1, 6, 10), -1);
    due("11: it stays so", x.turn(0, 1, 0), 10);
    due("7 to 11: refusals -1", x.count(11), 11);
    due("7 to 11: refusals -2", x.count(12), 2);
    due("7 to 11: refusals -4", x.count(14), 2);
    due("7 to 11: refusals -6", x.count(16), 2);
  }

  private static void years() {
    LabelsByAnotherHand x = of("p0;p4;jt00090;");
    due("12: below", x.years(0), -4);
    due("12: above", x.years(61), -6);
    due("12: nothing went by", x.count(2), 0);
    due("12: 9 years", x.years(9), 56 + 11);
    due("12: empty", x.pot(0, 4), 0);
    x.fills(0, 9);
    due("12: 9 more", x.years(9), 92 + 2);
    x.fills(0, 9);
    due("12: held at 99, at 0", x.years(2), 99);
    x.labels(0, 1);
    due("12: 2 less", x.years(1), 97);
    due("12: his pot only", x.pot(0, 4), 6);
    due("12: year", x.count(2), 21);
    due("12: 6 spoons, then none", x.years(7), 97 - 12 - 1);
    x.fills(0, 9);
    x.turn(0, 3, 9);
    x.labels(0, 3);
    due("12: an anvil", x.years(9), 0);
    LabelsByAnotherHand far = new LabelsByAnotherHand();
    for (int i = 0; i < 16; i++) {
      due("12: of nobody", far.years(60), 0);
    }
    due("12: year 1000", far.years(40), -6);
    due("12: year 999", far.years(39), 0);
    due("12: no more", far.years(1), -6);
    due("12: no more, below", far.years(0), -4);
    due("12: it is 999", far.count(2), 999);
    due("15: in thought it may pass", far.graceThen(60), 0);
  }

  private static void thenAsked() {
    LabelsByAnotherHand x = of("p0;p1;jj00020;jt01510;jj01111;");
    due("13: grace now", x.personThen(0, 0, 0), 20);
    due("13: opens now", x.personThen(0, 0, 1), 0);
    due("13: grace behind 2", x.personThen(0, 2, 0), 24);
    due("13: opens behind 2", x.personThen(0, 2, 1), 1);
    due("13: grace behind 3", x.personThen(0, 3, 0), 20);
    due("13: opens none behind 3", x.personThen(0, 3, 1), -9);
    due("13: grace behind 60", x.personThen(0, 60, 0), 0);
    due("13: of another", x.personThen(1, 2, 0), 21);
    due("13: nobody", x.personThen(2, 61, 2), -1);
    due("13: below", x.personThen(0, -1, 2), -4);
    due("13: above", x.personThen(0, 61, 2), -6);
    due("13: what", x.personThen(0, 60, 2), -2);
    due("13: what below", x.personThen(0, 60, -1), -2);
    due("14: full now", x.fullThen(0, 0), 2);
    due("14: full behind 1", x.fullThen(0, 1), 1);
    due("14: the other waits", x.fullThen(1, 2), 1);
    due("14: the other behind 3", x.fullThen(1, 3), 0);
    due("14: behind 60", x.fullThen(2, 60), 0);
    due("14: no such pot", x.fullThen(3, -1), -1);
    due("14: below", x.fullThen(0, -1), -4);
    due("14: above", x.fullThen(0, 61), -6);
    due("15: all now", x.graceThen(0), 40);
    due("15: all behind 2", x.graceThen(2), 24 + 21);
    due("15: all behind 60", x.graceThen(60), 0);
    due("15: below", x.graceThen(-1), -4);
    due("15: above", x.graceThen(61), -6);
    due("13 to 15: nothing went by", x.count(2), 0);
    due("13 to 15: nothing is less", x.count(4), 4);
  }

  private static void graceless() {
    LabelsByAnotherHand x = of("p0;p0;p0;jt00080;");
    due("16: at the 60th", x.graceless(0), 60);
    due("16: without pots", x.graceless(1), 20);
    due("16: first, of several the least", x.graceless(-1), 1);
    x.fills(0, 9);
    due("16: not in 60", x.graceless(0), -9);
    due("16: nobody", x.graceless(3), -1);
    due("16: below", x.graceless(-2), -1);
    x.years(20);
    due("16: at once", x.graceless(2), 0);
    due("16: first at once", x.graceless(-1), 1);
    due("16: none first", of("p0;jt00090;").graceless(-1), -9);
    due("16: first at the 60th", of("p0;jt00080;").graceless(-1), 0);
    due("16: an earlier one", of("p0;p0;p0;jt00080;jt00012;jt03332;ja93012;").graceless(-1), 1);
    due("16: the last is earliest", of("p0;p0;p0;jt00080;ja93052;").graceless(-1), 2);
  }

  private static void empties() {
    LabelsByAnotherHand x = of("p0;jj00090;jj00090;jj00090;jj00090;jj00090;jj00090;jj00060;jj00000;");
    due("17: the first", x.empties(0), 9);
    due("17: the second", x.empties(1), 18);
    due("17: at the 60th", x.empties(6), 60);
    due("17: empty already", x.empties(7), 0);
    x.fills(6, 7);
    due("17: not in 60", x.empties(6), -9);
    due("17: no such pot", x.empties(8), -1);
    due("17: below", x.empties(-1), -1);
    x.labels(6, 1);
    x.likes(0, 1);
    due("17: the one he likes", x.empties(6), 7);
  }

  private static void bestLabel() {
    LabelsByAnotherHand x = of("p0;jt03090;");
    due("18: in no years all are alike", x.label(0, 0), 0);
    due("18: what it holds", x.label(0, 9), 3);
    due("18: all are lost", x.label(0, 30), 3);
    due("18: no such pot", x.label(1, -1), -1);
    due("18: below", x.label(0, -1), -4);
    due("18: above", x.label(0, 31), -6);
    due("18: it stays so", x.pot(0, 3), 0);
    // Pot 1 is better than anything pot 0 can be: pot 0 is not to be opened in the first year.
    LabelsByAnotherHand hidden = of("p0;jb03010;jt01190;");
    due("18: not to be opened: 2 off", hidden.label(0, 1), 2);
    LabelsByAnotherHand none = of("p0;jb03010;jt02290;");
    due("18: 3 off", none.label(0, 1), 3);
    LabelsByAnotherHand bare = of("p3;ja90090;");
    due("18: honest is more than none", bare.label(0, 9), 0);
    // The anvil takes all: only what is opened behind it stays, and of that none gains most.
    due("18: none", of("p0;js80090;ja93190;").label(0, 18), 6);
  }

  private static void honestAndAudit() {
    LabelsByAnotherHand x = of("p0;p3;jj00010;jj01001;jj03301;jj03611;jj03311;");
    due("19: honest, full or not", x.honest(0), 1 + 4 + 16);
    due("19: hopeful", x.honest(1), 1 + 4 + 16);
    x.gives(1, 0);
    due("19: hopeful by the owner", x.honest(1), 1 + 2 + 4 + 16);
    due("19: what", x.honest(2), -2);
    due("19: what below", x.honest(-1), -2);

    LabelsByAnotherHand two = of("p0;p3;jt02090;jj03321;");
    due("20: now", two.audit(0, 0), 0);
    due("20: honest is more", two.audit(2, 0), 8 + 8);
    due("20: none is more here", two.audit(2, 1), 4 - 6);
    due("20: n below", two.audit(-1, 2), FAR + 4);
    due("20: n above", two.audit(31, 2), FAR + 6);
    due("20: what", two.audit(30, 2), FAR + 2);
    due("20: what below", two.audit(30, -1), FAR + 2);
    due("20: labels stay", two.pot(0, 3), 0);
    LabelsByAnotherHand less = of("p0;jt00010;jb03390;");
    due("20: honest already", less.audit(1, 0), 0);
    less.labels(0, 1);
    less.labels(1, 2);
    due("20: none", less.audit(1, 1), 0);
    LabelsByAnotherHand trap = of("p0;jj00110;jb00390;");
    due("20: 30 years", trap.audit(30, 0), trapThen(30));
  }

  /** Both honest: 10 spoons of 2, then 20 without; as it is: -1, then 9 of -3 each, so 0. */
  private static int trapThen(int n) {
    return 20 + 20 - (n - 10);
  }

  private static void changeGiftHeir() {
    LabelsByAnotherHand x = of("p0;p3;jb03390;jb00091;");
    due("21: changed, both gain", x.change(4), 1);
    due("21: in no years nothing is more", x.change(0), -9);
    due("21: below", x.change(-1), -4);
    due("21: above", x.change(21), -6);
    due("21: they stay", x.pot(0, 5), 0);
    due("21: of one owner", of("p0;p3;jb03390;jb00090;").change(4), -9);
    LabelsByAnotherHand several = of("p0;p3;jb03390;jb03390;jb00091;jb00091;");
    due("21: of several the first", several.change(1), 2);
    due("21: of several the first, in 20 years", several.change(20), 2);
    LabelsByAnotherHand last = of("p0;p3;jj03390;jb03390;jj00091;jb00091;");
    due("21: as much as else is not more", last.change(1), -9);
    last.labels(0, 1);
    last.labels(2, 1);
    due("21: the most is not the first", last.change(1), 13);

    LabelsByAnotherHand gift = of("p0;p3;p3;jb03390;jj03310;");
    due("22: to one who likes it", gift.gift(3), 1);
    due("22: nothing now", gift.gift(0), -9);
    due("22: in 20 years", gift.gift(20), 1);
    due("22: below", gift.gift(-1), -4);
    due("22: above", gift.gift(21), -6);
    due("22: it stays", gift.pot(0, 5), 0);
    LabelsByAnotherHand second = of("p0;p0;jj00090;jt00020;");
    due("22: alike: the first", second.gift(2), 1);
    second.fills(0, 2);
    second.labels(0, 1);
    due("22: as much as else is not more", second.gift(2), -9);
    due("22: the last to the last", of("p3;p3;p0;jj00090;jb00010;").gift(1), 12);
    LabelsByAnotherHand alone = of("p0;jj00090;");
    due("22: to nobody else", alone.gift(5), -9);

    due("30: to the first who likes it", gift.heir(0, 3), 1);
    due("30: now: the least", gift.heir(0, 0), 0);
    due("30: in 30 years", gift.heir(0, 30), 1);
    due("30: alike: the least", of("p0;p3;p3;jb03310;jj03310;").heir(0, 1), 1);
    due("30: no such pot", gift.heir(2, -1), -1);
    due("30: below", gift.heir(0, -1), -4);
    due("30: above", gift.heir(0, 31), -6);
    due("30: it stays", gift.pot(0, 5), 0);
    due("30: his own", of("p3;p0;jb00091;").heir(0, 5), 1);
  }

  private static void deal() {
    LabelsByAnotherHand x = of("p0;p3;p3;jb03310;jj01600;jt00010;jb00110;jb02212;jj04410;jj00010;");
    // Pots 0, 2, 3, 4, 5 are dealt: 2 to 1; 4; -1 to 0; 2 - 1 to 1; 2.
    due("23: together", x.deal(-1), 2 + 4 - 1 + 1 + 2);
    due("23: the first", x.deal(0), 1);
    due("23: alike: the least", x.deal(1), 0);
    due("23: the third", x.deal(2), 0);
    due("23: the fourth", x.deal(3), 1);
    due("23: the fifth", x.deal(4), 0);
    due("23: no sixth", x.deal(5), -9);
    due("23: far", x.deal(Integer.MAX_VALUE), -9);
    due("23: below", x.deal(-2), FAR + 4);
    due("23: far below", x.deal(Integer.MIN_VALUE), FAR + 4);
    LabelsByAnotherHand none = of("p0;jj00000;");
    due("23: none is full", none.deal(-1), 0);
    due("23: none is there", none.deal(0), -9);
  }

  private static void worstAndTrust() {
    LabelsByAnotherHand x = of("p0;p3;jj00010;jb03311;jb02010;jt03000;jb02010;js91010;");
    due("24: which", x.worst(0), 2);
    due("24: that", x.worst(1), -4);
    due("24: what", x.worst(2), FAR + 2);
    due("24: what below", x.worst(-1), FAR + 2);
    x.gives(2, 1);
    due("24: of another owner it is less", x.worst(0), 4);
    due("24: none", of("p0;jj00000;").worst(0), -9);
    due("24: none, that", of("p0;jj00000;").worst(1), 0);
    due("24: it gains", of("p0;jt00010;jj00010;").worst(1), 2);
    due("25: trust", x.trust(0), 2);
    due("25: of another", x.trust(1), 1);
    due("25: 0 is not 1", of("p0;jh01010;").trust(0), 0);
    due("25: not full", of("p0;jj00000;").trust(0), 0);
    due("25: nobody", x.trust(2), -1);
    due("25: below", x.trust(-1), -1);
  }

  private static void shelfAndSorts() {
    LabelsByAnotherHand x = of("p0;p3;jj00610;jj01300;jj03311;jj05110;jj04310;jj02010;");
    int[] shelf = {5, 3, 1, 4, 0, -9, -9};
    for (int i = 0; i < shelf.length; i++) {
      due("26: shelf " + i, x.shelf(0, i), shelf[i]);
    }
    due("26: of another", x.shelf(1, 0), 2);
    due("26: far", x.shelf(1, Integer.MAX_VALUE), -9);
    due("26: nobody", x.shelf(2, -1), -1);
    due("26: below", x.shelf(0, -1), -4);
    due("27: held", x.sorts(0), 1 + 4 + 8 + 16 + 32);
    due("27: most: the least", x.sorts(1), 0);
    due("27: never", x.sorts(2), 2);
    x.fills(3, 2);
    due("27: most", x.sorts(1), 5);
    x.fills(2, 0);
    due("27: a label, but not full", x.sorts(2), 2 + 8);
    LabelsByAnotherHand together = of("p0;jj00020;jj04130;jj00020;");
    due("27: spoons of two", together.sorts(1), 0);
    due("27: what", x.sorts(3), -2);
    due("27: what below", x.sorts(-1), -2);
  }

  private static void fewest() {
    LabelsByAnotherHand x = of("p0;p0;ja93030;ja93031;");
    due("28: none are needed now", x.fewest(0), 0);
    due("28: 20 becomes 10", x.fewest(1), 0);
    due("28: 10 becomes 0", x.fewest(2), 3);
    // One changed pot: 20 + 4 * 3 - 17.
    due("28: 20 years", x.fewest(20), 3);
    due("28: below", x.fewest(-1), -4);
    due("28: above", x.fewest(21), -6);
    due("28: labels stay", x.pot(0, 3), 0);
    due("28: never", of("p0;").fewest(20), -9);
    due("28: just", of("p0;").fewest(19), 0);
    due("28: of several the least", of("p0;ja93010;ja93010;ja93010;").fewest(3), 3);
    due("28: one, though two with lesser numbers would do",
        of("p0;ja42130;ja65210;ja81430;").fewest(9), 4);
    LabelsByAnotherHand one = of("p0;jj01030;jj01030;jj01030;ja93050;");
    due("28: one that helps most", one.fewest(20), 8);
    LabelsByAnotherHand gone = of("p0;ja93090;y02;");
    due("28: graceless now", gone.fewest(0), -9);
  }

  private static void warnAndTwo() {
    LabelsByAnotherHand x = of("p0;p3;jj00010;ja93090;jt02010;ja90391;");
    due("29: the worst away", x.warn(0, 5), 1);
    due("29: in no years nothing", x.warn(0, 0), -9);
    due("29: in the first year all is well", x.warn(0, 1), -9);
    due("29: of another", x.warn(1, 1), 3);
    due("29: in 30 years all is lost", x.warn(0, 30), -9);
    due("29: nobody", x.warn(2, -1), -1);
    due("29: below", x.warn(0, -1), -4);
    due("29: above", x.warn(0, 31), -6);
    due("29: it stays", x.pot(1, 4), 9);
    due("29: of several the least", of("p0;jt01010;jt01010;").warn(0, 2), 0);
    due("29: without pots", of("p0;").warn(0, 5), -9);

    due("31: both are better without", x.two(1, 3, 5), 11);
    due("31: neither in no years", x.two(1, 3, 0), 0);
    due("31: the first keeps", x.two(0, 3, 1), 1);
    due("31: the other keeps", x.two(3, 0, 1), 10);
    due("31: one twice", x.two(1, 1, -1), -1);
    due("31: no such pot", x.two(4, 1, -1), -1);
    due("31: no such other pot", x.two(1, 4, -1), -1);
    due("31: below", x.two(0, 1, -1), -4);
    due("31: above", x.two(0, 1, 31), -6);
    due("31: of one owner", x.two(0, 1, 30), -3);
    x.fills(3, 0);
    due("31: the other is not full", x.two(0, 3, 5), -3);
    due("31: the first is not full", x.two(3, 0, 5), -3);
    due("31: alike: not thrown away", of("p0;p0;jj00690;jj00691;").two(0, 1, 9), 0);
  }

  private static void errsAndMean() {
    LabelsByAnotherHand x = of("p0;jj01090;");
    due("32: in no years, above", x.errs(0, 0, 2, 20, 0), 1);
    due("32: in no years, below", x.errs(0, 0, 2, 20, 1), 1);
    due("32: too much, above", x.errs(0, 0, 2, 21, 0), 0);
    due("32: too much, below", x.errs(0, 0, 2, 21, 1), 1);
    due("32: 1 in 3 it is honest, above", x.errs(0, 1, 3, 22, 0), 1);
    due("32: 1 in 3 it is honest, below", x.errs(0, 1, 3, 22, 1), 3);
    // It stays one on: 24 needs an error before the first year and none before the second.
    due("32: twice honest, above", x.errs(0, 2, 4, 24, 0), 3);
    due("32: twice honest, below", x.errs(0, 2, 4, 24, 1), 16);
    // 20 in 7 years is reached by no more than one year that is 1 off.
    due("32: all, above", x.errs(0, 7, 20, 0, 0), 1);
    due("32: all, below", x.errs(0, 7, 20, 0, 1), 1);
    due("32: 34 in 7 years, above", x.errs(0, 7, 20, 34, 0), 47045881);
    due("32: 34 in 7 years, below", x.errs(0, 7, 20, 34, 1), 1280000000);
    x.labels(0, 5);
    x.likes(0, 5);
    due("32: 5 becomes 0: 1 off", x.errs(0, 1, 2, 19, 0), 1);
    due("32: 5 becomes 0: 1 off, below", x.errs(0, 1, 2, 19, 1), 2);
    x.labels(0, 6);
    due("32: none stay so", x.errs(0, 7, 2, 13, 0), 1);
    due("32: none stay so, above", x.errs(0, 7, 2, 14, 0), 0);
    due("32: labels stay", x.pot(0, 3), 6);
    due("32: nobody", x.errs(1, -1, 1, 100, 2), FARTHEST + 1);
    due("32: n below", x.errs(0, -1, 21, 100, 2), FARTHEST + 4);
    due("32: v below", x.errs(0, 8, 21, -1, 2), FARTHEST + 4);
    due("32: t below", x.errs(0, 8, 1, 100, 2), FARTHEST + 4);
    due("32: n above", x.errs(0, 8, 2, 0, 2), FARTHEST + 6);
    due("32: t above", x.errs(0, 7, 21, 0, 2), FARTHEST + 6);
    due("32: v above", x.errs(0, 7, 20, 100, 2), FARTHEST + 6);
    due("32: part", x.errs(0, 7, 20, 99, 2), FARTHEST + 2);
    due("32: part below", x.errs(0, 7, 20, 99, -1), FARTHEST + 2);
    LabelsByAnotherHand three = of("p0;p0;p0;jj00010;jt00011;y01;");
    // 22, 24 and 19.
    due("33: mean, above", three.mean(0), 65);
    due("33: mean, below", three.mean(1), 3);
    three.years(2);
    due("33: in lowest terms, above", of("p0;p0;jj00010;y02;").mean(0), 39);
    due("33: in lowest terms, below", of("p0;p0;jj00020;y02;").mean(1), 1);
    due("33: of nobody, above", new LabelsByAnotherHand().mean(0), 0);
    due("33: of nobody, below", new LabelsByAnotherHand().mean(1), 1);
    due("33: all at 0, below", of("p0;p0;y60;").mean(1), 1);
    due("33: part", three.mean(2), FARTHEST + 2);
    due("33: part below", three.mean(-1), FARTHEST + 2);
  }

  private static void whatInAndRow() {
    LabelsByAnotherHand x = of("p0;p1;jj00090;jj01191;");
    due("34: any sort by no row", x.whatIn(0, 0), 63);
    due("34: any kind by no row", x.whatIn(0, 1), 63);
    due("35: row", x.row(20), 1);
    due("34: any sort by what is now", x.whatIn(0, 0), 63);
    due("35: row again", x.row(19), 2);
    due("34: one off: 1 or 5", x.whatIn(0, 0), 2 + 32);
    due("34: kinds: none", x.whatIn(0, 1), 0);
    due("35: in the row", x.count(6), 2);
    due("37: clear", x.clear(), 2);
    due("37: clear again", x.clear(), 0);
    due("37: none in the row", x.count(6), 0);
    x.row(20);
    x.row(22);
    due("34: honest", x.whatIn(0, 0), 1);
    due("34: j, s, h, b", x.whatIn(0, 1), 1 + 4 + 16 + 32);
    due("34: of the other's pot", x.whatIn(1, 0), 2);
    x.row(23);
    due("34: all of it", x.whatIn(0, 0), 0);
    due("34: the row stays", x.count(6), 3);
    due("34: it holds what it did", x.pot(0, 2), 0);
    due("34: no such pot", x.whatIn(2, 2), -1);
    due("34: what", x.whatIn(0, 2), -2);
    due("34: what below", x.whatIn(0, -1), -2);
    due("35: below", x.row(-1), -4);
    due("35: above", x.row(100), -6);
    for (int i = 4; i <= 16; i++) {
      due("35: row " + i, x.row(i == 16 ? 0 : 99), i);
    }
    due("35: no room", x.row(0), -6);
    due("35: no room, below", x.row(-1), -4);
    due("37: all 16", x.clear(), 16);
    LabelsByAnotherHand longRow = of("p0;jj00090;");
    for (int i = 0; i < 16; i++) {
      longRow.row(i <= 9 ? 20 + 2 * i : 38 - (i - 9));
    }
    due("34: 16 in the row", longRow.whatIn(0, 0), 1);
    LabelsByAnotherHand wrongFirst = of("p0;jj00090;");
    wrongFirst.row(21);
    due("34: not so now", wrongFirst.whatIn(0, 0), 0);
  }

  private static void judge() {
    LabelsByAnotherHand x = of("p0;jj00310;jj00610;jj00010;");
    due("36: no row", x.judge(), -9);
    x.row(3);
    x.row(6);
    due("36: so", x.judge(), -9);
    due("36: none in the row then", x.count(6), 0);
    x.row(3);
    x.row(5);
    x.row(1);
    due("36: the first that is not so", x.judge(), 1);
    due("36: none in the row then, too", x.count(6), 0);
    x.row(3);
    x.row(6);
    x.row(0);
    x.row(0);
    due("36: no such pot", x.judge(), 3);
    for (int i = 0; i < 16; i++) {
      x.row(99);
    }
    due("36: 16 in the row", x.judge(), 0);
    due("36: not refused", x.count(11), 0);
  }

  private static void lots() {
    LabelsByAnotherHand x = of("p0;p0;");
    due("38: without pots", x.lots(20, -7, 0), 20 * 28);
    due("38: nobody at 0", x.lots(20, -7, 1), 0);
    x.years(14);
    due("38: all at 0", x.lots(20, Integer.MIN_VALUE, 1), 40);
    due("38: no grace", x.lots(1, 0, 0), 0);
    due("38: below", x.lots(0, 0, 2), -4);
    due("38: above", x.lots(21, 0, 2), -6);
    due("38: what", x.lots(20, 0, 2), -2);
    due("38: what below", x.lots(20, 0, -1), -2);
    // Seed 0: 1013904223 / 256 = 3960563 modulo 7 is 5; then z is 1196435762: / 256 = 4673577
    // modulo 10 is 7. So the label is 5 and there are 7 spoons: 6 are 1 off.
    LabelsByAnotherHand one = of("p0;jj00000;");
    due("38: one lot", one.lots(1, 0, 0), 20 - 6);
    due("38: it stays", one.pot(0, 4), 0);
    // Seed -1 becomes 1012239698: 3954061 modulo 7 is 6; then 806866057: 3151820 modulo 10 is 0.
    // The next village's is 579071060: 2261996 modulo 7 is 2; then -1585484893, without its sign's
    // bit 561998755: 2195307 modulo 10 is 7. So no spoons, then 6 that are 2 off.
    due("38: two lots", one.lots(2, -1, 0), 14 + 8);
  }

  private static void imageAndOn() {
    LabelsByAnotherHand x = of("p0;p3;jj00190;y03;");
    due("40: none", x.on(), -3);
    due("40: counted", x.count(13), 1);
    due("39: image", x.image(), 3);
    x.row(5);
    x.letter('p');
    x.years(5);
    x.labels(0, 6);
    x.gives(0, 1);
    x.likes(0, 4);
    x.turn(0, 5, 9);
    x.on();
    due("40: year", x.count(2), 3);
    due("40: grace", x.person(0, 1), 17);
    due("40: full", x.pot(0, 4), 6);
    due("40: label", x.pot(0, 3), 1);
    due("40: owner", x.pot(0, 5), 0);
    due("40: likes", x.person(0, 0), 0);
    due("40: kind and figure", x.turn(0, 3, 3), 0);
    due("40: the row stays", x.count(6), 1);
    due("40: letters stay", x.count(7), 1);
    due("40: refusals stay", x.count(13), 1);
    x.village();
    tell(x, "p5;jh55501;");
    due("40: a pot more", x.count(0), 2);
    due("40: on again", x.on(), 3);
    due("40: one pot", x.count(0), 1);
    due("40: two people", x.count(1), 2);
    due("40: as then, not as since", x.turn(0, 3, 3), 0);
    x.years(60);
    due("39: another image", x.image(), 63);
    x.years(1);
    due("40: on from the other", x.on(), 63);
    due("40: it is so", x.count(2), 63);
    LabelsByAnotherHand empty = new LabelsByAnotherHand();
    due("39: of nothing", empty.image(), 0);
    tell(empty, "p0;jj00000;");
    due("40: on from nothing", empty.on(), 0);
    due("40: nothing", empty.count(0) + empty.count(1), 0);
  }

  private static void counts() {
    LabelsByAnotherHand x = of("p0;p3;jj00190;jj01131;y02;");
    x.letter('p');
    x.row(9);
    int[] due = {2, 2, 2, 18 + 24, 8, 1, 1, 1};
    for (int what = 0; what < due.length; what++) {
      due("41: count(" + what + ")", x.count(what), due[what]);
    }
    due("41: -1", x.count(-1), -9);
    due("41: 8", x.count(8), -9);
    due("41: 9", x.count(9), -9);
    due("41: 10", x.count(10), -9);
    due("41: 17", x.count(17), -9);
    due("41: far", x.count(Integer.MIN_VALUE), -9);
    x.pot(9, 0);
    x.gains(9, 9);
    x.errs(9, 0, 2, 0, 0);
    x.honest(2);
    x.mean(3);
    x.on();
    x.deal(-2);
    x.letter(256);
    int[] refusals = {3, 2, 1, 1, 0, 1};
    for (int what = 11; what <= 16; what++) {
      due("41: count(" + what + ")", x.count(what), refusals[what - 11]);
    }
  }

  /** Where several refusals fit, the first told one is the answer, and only that is counted. */
  private static void refusalOrder() {
    LabelsByAnotherHand x = of("p0;p3;jj00190;jj01131;");
    x.pot(5, 9);
    x.two(0, 0, 31);
    x.errs(5, 8, 1, 100, 2);
    due("41: -1 first", x.count(11), 3);
    x.errs(0, 8, 1, 100, 2);
    x.turn(0, 6, 10);
    due("41: -2 of turn", x.count(12), 1);
    due("41: -4 before -6", x.count(14), 1);
    x.audit(31, 5);
    x.lots(0, 0, 5);
    x.personThen(0, 61, 5);
    due("41: -6 before -2", x.count(16), 2);
    due("41: -4 before -2", x.count(14), 2);
    due("41: -2 no more", x.count(12), 1);
  }
}
