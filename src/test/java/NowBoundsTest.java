/** Promises 4 to 12, 19, 23 to 27, 33 and 41 at their bounds: what is now, and what changes it. */
public final class NowBoundsTest {
  private static final Check CHECK = new Check("NowBoundsTest");
  /** All POTS empty, of one. */
  private static final String ALL_EMPTY = "p0;" + "jj00000;".repeat(8);

  private static void due(String what, long got, long want) {
    CHECK.due(what, got, want);
  }

  public static void main(String[] args) {
    allFull();
    potAtBounds();
    personAtBounds();
    gainsAtBounds();
    labelsAtBounds();
    givesAtBounds();
    likesAtBounds();
    fillsAtBounds();
    turnAtBounds();
    yearsAtBounds();
    lastYear();
    honestAtBounds();
    dealAtBounds();
    dealOfFive();
    worstAtBounds();
    trustAtBounds();
    shelfAtBounds();
    sortsAtBounds();
    meanAtBounds();
    countAtBounds();
    CHECK.end();
  }

  /** The village that refusals are looked at in is as full as it can be. */
  private static void allFull() {
    LabelsByAnotherHand x = Villages.allFull();
    due("41: 8 pots", x.count(0), 8);
    due("41: 5 people", x.count(1), 5);
    due("41: year 999", x.count(2), 999);
    due("41: all grace is of one", x.count(3), 99);
    due("41: 16 in the row", x.count(6), 16);
    due("41: 96 letters", x.count(7), 96);
    due("5: grace 99", x.person(0, 1), 99);
    for (int person = 1; person <= 4; person++) {
      due("5: grace 0 of " + person, x.person(person, 1), 0);
    }
  }

  private static void potAtBounds() {
    LabelsByAnotherHand x = Check.of("p0;p0;p0;p0;p0;jj00000;"
        + "jt11110;".repeat(6) + "jb95694;");
    int[] least = {0, 0, 0, 0, 0, 0};
    int[] greatest = {5, 9, 5, 6, 9, 4};
    for (int what = 0; what <= 5; what++) {
      due("4: pot(0, " + what + ")", x.pot(0, what), least[what]);
      due("4: pot(7, " + what + ")", x.pot(7, what), greatest[what]);
      due("4: pot(8, " + what + ")", x.pot(8, what), -1);
      due("4: pot(-1, " + what + ")", x.pot(-1, what), -1);
    }
    due("4: pot(7, 6)", x.pot(7, 6), -2);
    due("4: pot(0, -1)", x.pot(0, -1), -2);
    due("4: pot(8, 6)", x.pot(8, 6), -1);
    due("4: how many -1", x.count(11), 13);
    due("4: how many -2", x.count(12), 2);
  }

  private static void personAtBounds() {
    LabelsByAnotherHand x = Check.of("p0;p1;p2;p3;p5;" + "jj00014;".repeat(8));
    due("5: likes 0", x.person(0, 0), 0);
    due("5: likes 5", x.person(4, 0), 5);
    due("5: grace at first", x.person(4, 1), 20);
    due("5: the first pot", x.person(4, 2), 0);
    due("5: all pots", x.person(4, 3), 255);
    due("5: no pots", x.person(0, 3), 0);
    due("5: opens none", x.person(0, 2), -9);
    for (int pot = 0; pot <= 7; pot++) {
      x.gives(pot, 0);
      due("5: his pots to " + pot, x.person(0, 3), (2 << pot) - 1);
      due("5: the other's from " + pot, x.person(4, 3), 255 - ((2 << pot) - 1));
    }
    due("5: nobody 5", x.person(5, 0), -1);
    due("5: nobody -1", x.person(-1, 0), -1);
    due("5: person(4, 4)", x.person(4, 4), -2);
    due("5: person(4, -1)", x.person(4, -1), -2);
    due("5: person(5, 4)", x.person(5, 4), -1);
    x.years(60);
    due("5: grace 0", x.person(1, 1), 0);
  }

  private static void gainsAtBounds() {
    LabelsByAnotherHand x = Check.of("p0;p0;p0;p0;p3;" + "jt00000;".repeat(7) + "jb00000;");
    due("6: the first, not full", x.gains(0, 0), 4);
    due("6: the last of another", x.gains(7, 4), -1);
    due("6: it is not his, too", x.gains(7, 3), 2);
    due("6: pot 8", x.gains(8, 0), 1000000001);
    due("6: pot -1", x.gains(-1, 0), 1000000001);
    due("6: nobody 5", x.gains(0, 5), 1000000001);
    due("6: nobody -1", x.gains(0, -1), 1000000001);
    due("6: how many", x.count(11), 4);
  }

  private static void labelsAtBounds() {
    LabelsByAnotherHand x = Check.of(ALL_EMPTY);
    int was = 0;
    for (int label = 0; label <= 6; label++) {
      due("7: labels(7, " + label + ")", x.labels(7, label), was);
      due("7: it is so", x.pot(7, 3), label);
      was = label;
    }
    due("7: label 7", x.labels(7, 7), -1);
    due("7: label -1", x.labels(7, -1), -1);
    due("7: pot 8", x.labels(8, 0), -1);
    due("7: pot -1", x.labels(-1, 0), -1);
    due("7: it stays 6", x.pot(7, 3), 6);
    due("7: the first", x.labels(0, 6), 0);
    due("7: the first again", x.labels(0, 6), 6);
    due("7: how many", x.count(11), 4);
  }

  private static void givesAtBounds() {
    LabelsByAnotherHand x = Check.of("p0;p0;p0;p0;p0;" + "jj00000;".repeat(8));
    int was = 0;
    for (int person = 4; person >= 0; person--) {
      due("8: gives(7, " + person + ")", x.gives(7, person), was);
      due("8: it is so", x.pot(7, 5), person);
      was = person;
    }
    due("8: nobody 5", x.gives(7, 5), -1);
    due("8: nobody -1", x.gives(7, -1), -1);
    due("8: pot 8", x.gives(8, 0), -1);
    due("8: pot -1", x.gives(-1, 0), -1);
    due("8: it stays 0", x.pot(7, 5), 0);
    due("8: the first", x.gives(0, 4), 0);
    due("8: how many", x.count(11), 4);
  }

  private static void likesAtBounds() {
    LabelsByAnotherHand x = Check.of("p0;p0;p0;p0;p0;");
    int was = 0;
    for (int sort = 0; sort <= 5; sort++) {
      due("9: likes(4, " + sort + ")", x.likes(4, sort), was);
      due("9: it is so", x.person(4, 0), sort);
      was = sort;
    }
    due("9: sort 6", x.likes(4, 6), -1);
    due("9: sort -1", x.likes(4, -1), -1);
    due("9: nobody 5", x.likes(5, 0), -1);
    due("9: nobody -1", x.likes(-1, 0), -1);
    due("9: it stays 5", x.person(4, 0), 5);
    due("9: others stay", x.person(3, 0), 0);
    due("9: how many", x.count(11), 4);
  }

  private static void fillsAtBounds() {
    LabelsByAnotherHand x = Check.of(ALL_EMPTY);
    int was = 0;
    for (int v = 0; v <= 9; v++) {
      due("10: fills(7, " + v + ")", x.fills(7, v), was);
      due("10: it is so", x.pot(7, 4), v);
      due("10: all spoons", x.count(4), v);
      was = v;
    }
    due("10: 10", x.fills(7, 10), -6);
    due("10: -1", x.fills(7, -1), -4);
    due("10: pot 8", x.fills(8, 0), -1);
    due("10: pot 8, 10", x.fills(8, 10), -1);
    due("10: pot -1, -1", x.fills(-1, -1), -1);
    due("10: it stays 9", x.pot(7, 4), 9);
    due("10: empty again", x.fills(7, 0), 9);
    due("10: none opened", x.person(0, 2), -9);
    due("10: how many -1", x.count(11), 3);
    due("10: how many -4", x.count(14), 1);
    due("10: how many -6", x.count(16), 1);
  }

  private static void turnAtBounds() {
    LabelsByAnotherHand x = Check.of(ALL_EMPTY);
    int was = 0;
    for (int kind = 0; kind <= 5; kind++) {
      for (int figure = 0; figure <= 9; figure++) {
        due("11: turn(7, " + kind + ", " + figure + ")", x.turn(7, kind, figure), was);
        was = 10 * kind + figure;
      }
    }
    due("11: kind 6", x.turn(7, 6, 0), -2);
    due("11: kind -1", x.turn(7, -1, 0), -2);
    due("11: figure 10", x.turn(7, 0, 10), -6);
    due("11: figure -1", x.turn(7, 0, -1), -4);
    due("11: kind 6, figure -1", x.turn(7, 6, -1), -2);
    due("11: pot 8, kind 6", x.turn(8, 6, 10), -1);
    due("11: pot -1", x.turn(-1, 0, 0), -1);
    due("11: kind stays 5", x.pot(7, 0), 5);
    due("11: figure stays 9", x.pot(7, 1), 9);
    due("11: the first", x.turn(0, 5, 9), 0);
  }

  private static void yearsAtBounds() {
    LabelsByAnotherHand x = Check.of("p0;p0;");
    due("12: 0", x.years(0), -4);
    due("12: -1", x.years(-1), -4);
    due("12: 61", x.years(61), -6);
    due("12: none went by", x.count(2), 0);
    due("12: all grace stays", x.count(3), 40);
    due("12: 1", x.years(1), 38);
    due("12: 60", x.years(60), 0);
    due("12: 61 went by", x.count(2), 61);
    due("12: of nobody", new LabelsByAnotherHand().years(60), 0);
    for (int n = 1; n <= 60; n++) {
      LabelsByAnotherHand one = Check.of("p0;jt00080;");
      int due = n <= 8 ? 20 + 4 * n : 52 - (n - 8);
      due("12: years(" + n + ")", one.years(n), due);
      due("12: year", one.count(2), n);
    }
  }

  private static void lastYear() {
    LabelsByAnotherHand x = new LabelsByAnotherHand();
    Villages.goOn(x, 939);
    x.image();
    due("12: 939 and 60", x.years(60), 0);
    due("12: 999", x.count(2), 999);
    due("12: 999 and 1", x.years(1), -6);
    due("12: 999 and 60", x.years(60), -6);
    due("12: 999 and 0", x.years(0), -4);
    due("12: 999 stays", x.count(2), 999);
    x.on();
    due("12: 939 and 1", x.years(1), 0);
    due("12: 940 and 60", x.years(60), -6);
    due("12: 940 stays", x.count(2), 940);
    due("12: 940 and 59", x.years(59), 0);
    due("39: image of 999", x.image(), 999);
    due("40: on from 999", x.on(), 999);
    due("12: still none more", x.years(1), -6);
  }

  private static void honestAtBounds() {
    due("19: no pots", new LabelsByAnotherHand().honest(0), 0);
    due("19: no pots, hopeful", new LabelsByAnotherHand().honest(1), 0);
    LabelsByAnotherHand x = Check.of(ALL_EMPTY);
    due("19: all 8, not full", x.honest(0), 255);
    due("19: all 8 hopeful, not full", x.honest(1), 255);
    x.likes(0, 5);
    due("19: none hopeful", x.honest(1), 0);
    for (int pot = 0; pot <= 7; pot++) {
      x.labels(pot, pot % 2 == 0 ? 6 : 5);
    }
    due("19: none honest", x.honest(0), 0);
    due("19: without a label none", x.honest(1), 2 + 8 + 32 + 128);
    due("19: 2", x.honest(2), -2);
    due("19: -1", x.honest(-1), -2);
  }

  private static void dealAtBounds() {
    LabelsByAnotherHand none = new LabelsByAnotherHand();
    due("23: nobody, together", none.deal(-1), 0);
    due("23: nobody, the first", none.deal(0), -9);
    due("23: -2", none.deal(-2), 1000000004);
    due("23: no pots", Check.of("p0;").deal(-1), 0);
    due("23: no pots, the first", Check.of("p0;").deal(0), -9);
    LabelsByAnotherHand empty = Check.of(ALL_EMPTY);
    due("23: none is full", empty.deal(-1), 0);
    due("23: none is full, the first", empty.deal(0), -9);
    empty.fills(7, 1);
    due("23: only the last is full", empty.deal(-1), 2);
    due("23: it is the first of them", empty.deal(0), 0);
    due("23: there is no second", empty.deal(1), -9);
    due("23: though it is pot 7", empty.deal(7), -9);
    due("23: the least", Check.of("p0;" + "ja93090;".repeat(8)).deal(-1), -50);
    due("23: the most", Check.of("p0;" + "jt00010;".repeat(8)).deal(-1), 20);
    due("23: four of them", Check.of("p0;" + "jt00010;".repeat(4)).deal(-1), 16);
    due("23: four, the fourth", Check.of("p0;" + "jt00010;".repeat(4)).deal(3), 0);
    due("23: four, the fifth", Check.of("p0;" + "jt00010;".repeat(4)).deal(4), -9);
  }

  /** BITTER ones go to whoever LIKES what they HOLD; the first three POTS are empty. */
  private static void dealOfFive() {
    LabelsByAnotherHand x = Check.of("p0;p1;p2;p3;p4;jb00000;jb00000;jb00000;"
        + "jb04410;jb03310;jb02210;jb01110;jb00010;");
    int[] whose = {4, 3, 2, 1, 0};
    due("23: together", x.deal(-1), 10);
    for (int i = 0; i < 5; i++) {
      due("23: the one with " + i, x.deal(i), whose[i]);
    }
    due("23: no sixth", x.deal(5), -9);
    due("23: none so far", x.deal(Integer.MAX_VALUE), -9);
    x.fills(1, 1);
    due("23: another first", x.deal(0), 0);
    due("23: the first is the second", x.deal(1), 4);
    due("23: the fifth is the fourth", x.deal(4), 1);
    due("23: the last is none of the first 5", x.deal(5), -9);
    due("23: together again", x.deal(-1), 10);
    LabelsByAnotherHand alike = Check.of("p2;p0;p4;p4;jb05510;");
    due("23: 1 off 0 and 4: the least of people", alike.deal(0), 1);
    due("23: that", alike.deal(-1), 1);
  }

  private static void worstAtBounds() {
    due("24: nothing", new LabelsByAnotherHand().worst(0), -9);
    due("24: nothing, that", new LabelsByAnotherHand().worst(1), 0);
    LabelsByAnotherHand x = Check.of(ALL_EMPTY);
    due("24: none is full", x.worst(0), -9);
    due("24: none is full, that", x.worst(1), 0);
    x.fills(7, 1);
    due("24: the last", x.worst(0), 7);
    due("24: the last, that", x.worst(1), 2);
    x.fills(0, 1);
    due("24: of several the least", x.worst(0), 0);
    x.turn(3, 3, 9);
    x.labels(3, 3);
    due("24: a worse one is empty", x.worst(0), 0);
    x.fills(3, 1);
    due("24: a worse one", x.worst(0), 3);
    due("24: a worse one, that", x.worst(1), -10);
    due("24: 2", x.worst(2), 1000000002);
    due("24: -1", x.worst(-1), 1000000002);
    due("24: how many", x.count(12), 2);
  }

  private static void trustAtBounds() {
    due("25: without pots", Check.of("p0;").trust(0), 0);
    due("25: none is full", Check.of(ALL_EMPTY).trust(0), 0);
    due("25: all 8", Check.of("p0;" + "jj00010;".repeat(8)).trust(0), 8);
    due("25: 0 gained", Check.of("p0;js41010;").trust(0), 0);
    due("25: 1 gained", Check.of("p0;js81010;").trust(0), 1);
    due("25: -1 gained", Check.of("p0;js31010;").trust(0), 0);
    LabelsByAnotherHand x = Check.of("p0;p1;p2;p3;p4;jj00010;jj00014;jj00014;");
    due("25: the first", x.trust(0), 1);
    due("25: the last", x.trust(4), 2);
    due("25: nobody 5", x.trust(5), -1);
    due("25: nobody -1", x.trust(-1), -1);
    due("25: nobody 0", new LabelsByAnotherHand().trust(0), -1);
  }

  private static void shelfAtBounds() {
    LabelsByAnotherHand x = Check.of("p0;jj00600;jj00500;jj00400;jj00300;jj00200;jj00100;"
        + "jj00000;jj00000;");
    int[] due = {6, 7, 5, 4, 3, 2, 1, 0};
    for (int i = 0; i < 8; i++) {
      due("26: shelf(0, " + i + ")", x.shelf(0, i), due[i]);
    }
    due("26: shelf(0, 8)", x.shelf(0, 8), -9);
    due("26: shelf(0, greatest)", x.shelf(0, Integer.MAX_VALUE), -9);
    due("26: shelf(0, -1)", x.shelf(0, -1), -4);
    due("26: shelf(1, -1)", x.shelf(1, -1), -1);
    due("26: shelf(-1, 0)", x.shelf(-1, 0), -1);
    due("26: without pots", Check.of("p0;").shelf(0, 0), -9);
    LabelsByAnotherHand none = Check.of("p0;" + "jj00600;".repeat(8));
    for (int i = 0; i < 8; i++) {
      due("26: all without a label, " + i, none.shelf(0, i), i);
    }
  }

  private static void sortsAtBounds() {
    for (int what = 0; what <= 2; what++) {
      due("27: nothing, " + what, new LabelsByAnotherHand().sorts(what), 0);
    }
    LabelsByAnotherHand x = Check.of("p0;jj00510;jj01410;jj02310;jj03210;jj04110;jj05010;");
    due("27: all held", x.sorts(0), 63);
    due("27: alike: the least", x.sorts(1), 0);
    due("27: none is never", x.sorts(2), 0);
    x.fills(5, 2);
    due("27: most is 5", x.sorts(1), 5);
    for (int pot = 0; pot <= 5; pot++) {
      x.fills(pot, 0);
    }
    due("27: none is held", x.sorts(0), 0);
    due("27: most of none", x.sorts(1), 0);
    due("27: all are never", x.sorts(2), 63);
    x.labels(0, 6);
    due("27: none is no sort", x.sorts(2), 31);
    x.fills(0, 1);
    due("27: 0 is held", x.sorts(2), 30);
    due("27: 3", x.sorts(3), -2);
    due("27: -1", x.sorts(-1), -2);
    LabelsByAnotherHand eight = Check.of("p0;jj00000;jj00000;jj00010;jj01120;jj02230;jj03340;"
        + "jj04450;jj05560;");
    for (int sort = 5; sort >= 0; sort--) {
      due("27: most is " + sort, eight.sorts(1), sort);
      due("27: held to " + sort, eight.sorts(0), (2 << sort) - 1);
      due("27: never from " + sort, eight.sorts(2), 63 - ((2 << sort) - 1));
      eight.fills(2 + sort, 0);
    }
    LabelsByAnotherHand most = Check.of("p0;jj00090;jj00090;jj05590;jj05590;jj05510;");
    due("27: 19 before 18", most.sorts(1), 5);
    most.fills(4, 0);
    due("27: 18 and 18", most.sorts(1), 0);
  }

  private static void meanAtBounds() {
    due("33: nobody, above", new LabelsByAnotherHand().mean(0), 0);
    due("33: nobody, below", new LabelsByAnotherHand().mean(1), 1);
    due("33: one, above", Check.of("p0;").mean(0), 20);
    due("33: one, below", Check.of("p0;").mean(1), 1);
    LabelsByAnotherHand five = Check.of("p0;p0;p0;p0;p0;jj00010;y01;");
    due("33: 22 and 19 four times, above", five.mean(0), 98);
    due("33: 22 and 19 four times, below", five.mean(1), 5);
    five.years(60);
    due("33: all at 0, above", five.mean(0), 0);
    due("33: all at 0, below", five.mean(1), 1);
    LabelsByAnotherHand most = Check.of("p0;jt00090;jt00090;jt00090;y20;");
    due("33: 99, above", most.mean(0), 99);
    due("33: 99, below", most.mean(1), 1);
    LabelsByAnotherHand four = Check.of("p0;p0;p0;p0;jj00010;jj00011;y01;");
    due("33: 82 by 4, above", four.mean(0), 41);
    due("33: 82 by 4, below", four.mean(1), 2);
    due("33: 2", five.mean(2), 4000000000000000002L);
    due("33: -1", five.mean(-1), 4000000000000000002L);
  }

  private static void countAtBounds() {
    LabelsByAnotherHand x = Villages.allFull();
    int[] others = {Integer.MIN_VALUE, -1, 8, 9, 10, 17, Integer.MAX_VALUE};
    for (int what : others) {
      due("41: count(" + what + ")", x.count(what), -9);
    }
    for (int what = 11; what <= 16; what++) {
      due("41: -9 is no refusal", x.count(what), 0);
    }
    LabelsByAnotherHand all = Check.of("p0;" + "jj00090;".repeat(8));
    due("41: all spoons", all.count(4), 72);
    due("41: all honest", all.count(5), 8);
    due("41: none honest", Check.of("p0;" + "jj00690;".repeat(8)).count(5), 0);
    LabelsByAnotherHand refused = new LabelsByAnotherHand();
    for (int i = 1; i <= 90; i++) {
      refused.pot(0, 0);
      refused.worst(2);
      refused.on();
      refused.row(-1);
      refused.letter(256);
    }
    int[] due = {90, 90, 90, 90, 0, 90};
    for (int what = 11; what <= 16; what++) {
      due("41: count(" + what + ")", refused.count(what), due[what - 11]);
    }
  }
}
