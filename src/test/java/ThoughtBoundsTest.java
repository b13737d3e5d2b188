import java.util.function.ToLongFunction;

/** Promises 13 to 18, 20 to 22 and 28 to 32 at their bounds: what is thought of, not done. */
public final class ThoughtBoundsTest {
  private static final Check CHECK = new Check("ThoughtBoundsTest");
  /** 29 honest spoons, POTS 0 to 3. */
  private static final String TWENTY_NINE = "jj00090;jj00090;jj00090;jj00020;";
  /** OPENED last by one who LIKES 0, and 6 are lost by it. */
  private static final String BAD_LAST = "jt00310;";

  private static void due(String what, long got, long want) {
    CHECK.due(what, got, want);
  }

  public static void main(String[] args) {
    nothingThere();
    thenAtBounds();
    thenBeyondTheLastYear();
    gracelessAtBounds();
    firstAtBounds();
    emptiesAtBounds();
    labelAtBounds();
    auditAtBounds();
    changeAtBounds();
    changeWhich();
    giftAtBounds();
    giftWhich();
    fewestAtBounds();
    fewestWhich();
    warnAtBounds();
    heirAtBounds();
    twoAtBounds();
    twoStates();
    errsAtBounds();
    nothingChanges();
    CHECK.end();
  }

  private static void nothingThere() {
    Twins bare = Villages.bare();
    bare.asked(CHECK, "15: graceThen(0)", x -> x.graceThen(0), 0);
    bare.asked(CHECK, "15: graceThen(60)", x -> x.graceThen(60), 0);
    bare.asked(CHECK, "16: graceless(-1)", x -> x.graceless(-1), -9);
    bare.asked(CHECK, "20: audit(30, 0)", x -> x.audit(30, 0), 0);
    bare.asked(CHECK, "20: audit(30, 1)", x -> x.audit(30, 1), 0);
    bare.asked(CHECK, "21: change(20)", x -> x.change(20), -9);
    bare.asked(CHECK, "22: gift(20)", x -> x.gift(20), -9);
    bare.asked(CHECK, "28: fewest(20)", x -> x.fewest(20), 0);
    bare.refused(CHECK, "13: personThen(0, 0, 0)", x -> x.personThen(0, 0, 0), -1, -1);
    bare.refused(CHECK, "14: fullThen(0, 0)", x -> x.fullThen(0, 0), -1, -1);
    bare.refused(CHECK, "16: graceless(0)", x -> x.graceless(0), -1, -1);
    bare.refused(CHECK, "17: empties(0)", x -> x.empties(0), -1, -1);
    bare.refused(CHECK, "18: label(0, 0)", x -> x.label(0, 0), -1, -1);
    bare.refused(CHECK, "29: warn(0, 0)", x -> x.warn(0, 0), -1, -1);
    bare.refused(CHECK, "30: heir(0, 0)", x -> x.heir(0, 0), -1, -1);
    bare.refused(CHECK, "31: two(0, 1, 0)", x -> x.two(0, 1, 0), -1, -1);
  }

  private static void thenAtBounds() {
    // 52 behind 8 years, then 1 less in each: 0 behind 60.
    LabelsByAnotherHand x = Check.of("p0;p0;p0;p0;p0;jt00080;" + "jj00000;".repeat(6) + "jj00094;");
    for (int n = 0; n <= 60; n++) {
      due("13: grace behind " + n, x.personThen(0, n, 0), n <= 8 ? 20 + 4 * n : 60 - n);
      due("13: opens behind " + n, x.personThen(0, n, 1), n < 8 ? 0 : -9);
      due("14: full behind " + n, x.fullThen(0, n), Math.max(0, 8 - n));
      due("14: the last full behind " + n, x.fullThen(7, n), Math.max(0, 9 - n));
    }
    due("13: the last opens", x.personThen(4, 8, 1), 7);
    due("13: the last opens none", x.personThen(4, 9, 1), -9);
    due("13: the last's grace", x.personThen(4, 60, 0), 0);
    due("13: 61", x.personThen(0, 61, 0), -6);
    due("13: -1", x.personThen(0, -1, 0), -4);
    due("13: what 2", x.personThen(0, 0, 2), -2);
    due("13: what -1", x.personThen(0, 0, -1), -2);
    due("13: nobody 5", x.personThen(5, 0, 0), -1);
    due("14: 61", x.fullThen(0, 61), -6);
    due("14: -1", x.fullThen(0, -1), -4);
    due("14: pot 8", x.fullThen(8, 0), -1);
    due("15: now", x.graceThen(0), 100);
    due("15: behind 1", x.graceThen(1), 24 + 22 + 3 * 19);
    due("15: behind 57", x.graceThen(57), 3);
    due("15: behind 59", x.graceThen(59), 1);
    due("15: behind 60", x.graceThen(60), 0);
    due("15: 61", x.graceThen(61), -6);
    due("15: -1", x.graceThen(-1), -4);
  }

  private static void thenBeyondTheLastYear() {
    LabelsByAnotherHand x = Check.of("p0;jt00090;");
    Villages.goOn(x, 999);
    x.fills(0, 9);
    due("13: from year 999", x.personThen(0, 1, 0), 4);
    due("13: 60 from year 999", x.personThen(0, 60, 0), 0);
    due("14: from year 999", x.fullThen(0, 60), 0);
    due("15: from year 999", x.graceThen(9), 36);
    due("16: from year 999", x.graceless(0), 0);
    due("17: from year 999", x.empties(0), 9);
    due("18: from year 999", x.label(0, 30), 0);
    due("20: from year 999", x.audit(9, 1), -36);
    // The label drawn is 5: 1 off.
    due("38: from year 999", x.lots(1, 0, 1), 1);
    due("12: none of these went by", x.count(2), 999);
  }

  private static void gracelessAtBounds() {
    due("16: 60", Check.of("p0;jt00080;").graceless(0), 60);
    // One spoon that gains nothing puts it off by one.
    LabelsByAnotherHand later = Check.of("p0;jt00080;js41010;");
    due("16: 61", later.graceless(0), -9);
    due("16: 61, first", later.graceless(-1), -9);
    due("13: 1 behind 60", later.personThen(0, 60, 0), 1);
    later.years(1);
    due("16: 60 now", later.graceless(0), 60);
    later.years(59);
    due("16: 1", later.graceless(0), 1);
    later.years(1);
    due("16: 0", later.graceless(0), 0);
    later.years(60);
    due("16: 0 still", later.graceless(0), 0);
    LabelsByAnotherHand again = Check.of("p0;ja93020;jt01190;");
    due("16: 0 first, though more behind it", again.graceless(0), 2);
    LabelsByAnotherHand five = Check.of("p0;p0;p0;p0;p0;");
    due("16: the last", five.graceless(4), 20);
    due("16: nobody 5", five.graceless(5), -1);
    due("16: -2", five.graceless(-2), -1);
    due("16: how many", five.count(11), 2);
  }

  private static void firstAtBounds() {
    due("16: one at 60", Check.of("p0;jt00080;").graceless(-1), 0);
    due("16: alike: the least", Check.of("p0;p0;p0;p0;p0;").graceless(-1), 0);
    LabelsByAnotherHand last = Check.of("p0;p0;p0;p0;p0;jj00010;jj00011;jj00012;jj00013;");
    due("16: the last", last.graceless(-1), 4);
    last.years(20);
    due("16: now", last.graceless(-1), 4);
    last.years(60);
    due("16: all now: the least", last.graceless(-1), 0);
  }

  private static void emptiesAtBounds() {
    LabelsByAnotherHand x = Check.of("p0;" + "jj00090;".repeat(6) + "jj00060;jj00010;");
    due("17: 9", x.empties(0), 9);
    due("17: 60", x.empties(6), 60);
    due("17: 61", x.empties(7), -9);
    x.fills(6, 5);
    due("17: 60 again", x.empties(7), 60);
    x.fills(7, 0);
    due("17: 0", x.empties(7), 0);
    due("17: pot 8", x.empties(8), -1);
    due("17: pot -1", x.empties(-1), -1);
    due("17: the greatest full", Check.of("p0;jj00090;").empties(0), 9);
    due("17: the least full", Check.of("p0;jj00010;").empties(0), 1);
  }

  private static void labelAtBounds() {
    // POT 0 is behind the 29 if it is not labelled 0: that is best until it is opened itself.
    LabelsByAnotherHand x = Check.of("p0;jj03010;" + TWENTY_NINE);
    due("18: 0 years: all alike", x.label(0, 0), 0);
    due("18: 1 year", x.label(0, 1), 1);
    due("18: 29 years", x.label(0, 29), 1);
    due("18: 30 years", x.label(0, 30), 3);
    due("18: 31 years", x.label(0, 31), -6);
    due("18: -1 years", x.label(0, -1), -4);
    due("18: pot 5", x.label(5, 0), -1);
    // Held at 99 all are alike, whatever it gains.
    LabelsByAnotherHand held = Check.of("p0;jt00090;jt00090;jt00090;y20;");
    held.fills(0, 1);
    held.fills(1, 9);
    held.fills(2, 0);
    due("18: held at 99", held.label(0, 2), 0);
    LabelsByAnotherHand others = Check.of("p3;jt00090;");
    due("18: the only one", others.label(0, 9), 0);
    // From 0: honest it is 2, then 1, then 0; with any other it stays 0.
    LabelsByAnotherHand least = Check.of("p0;y20;jj03010;");
    due("18: 2 is most", least.label(0, 1), 3);
    due("18: 1 is most", least.label(0, 2), 3);
    due("18: 0 is most", least.label(0, 3), 0);
    LabelsByAnotherHand eight = Check.of("p0;" + "jj00000;".repeat(7) + "jt05010;");
    due("18: the last pot, 5", eight.label(7, 1), 5);
    // The anvil takes all: only what is opened behind it stays, and of that none gains most.
    LabelsByAnotherHand none = Check.of("p0;js80090;ja93190;");
    due("18: none", none.label(0, 18), 6);
  }

  private static void auditAtBounds() {
    LabelsByAnotherHand x = Check.of("p0;" + TWENTY_NINE + BAD_LAST);
    due("20: 0 years", x.audit(0, 0), 0);
    due("20: 0 years, blank", x.audit(0, 1), 0);
    due("20: 1 year, blank", x.audit(1, 1), -3);
    due("20: 29 years", x.audit(29, 0), 0);
    due("20: 29 years, blank", x.audit(29, 1), -78);
    due("20: 30 years", x.audit(30, 0), 10);
    due("20: 30 years, blank", x.audit(30, 1), -72);
    due("20: 31 years", x.audit(31, 0), 1000000006);
    due("20: -1 years", x.audit(-1, 0), 1000000004);
    due("20: what 2", x.audit(0, 2), 1000000002);
    due("20: what -1", x.audit(0, -1), 1000000002);
    due("20: 31 years, what 2", x.audit(31, 2), 1000000006);
    due("20: -1 years, what 2", x.audit(-1, 2), 1000000004);
    due("20: of all five", Check.of("p0;p0;p0;p0;p0;jt01010;jt01011;jt01012;jt01013;jt01014;")
        .audit(1, 0), 30);
    due("20: without pots", Check.of("p0;").audit(30, 0), 0);
  }

  private static void changeAtBounds() {
    // Each has 19 good spoons, then one that the other would like.
    LabelsByAnotherHand x = Check.of("p0;p3;jj00090;jj00090;jj00010;jb03310;"
        + "jj03391;jj03391;jj03311;jb00011;");
    due("21: 0 years", x.change(0), -9);
    due("21: 19 years", x.change(19), -9);
    due("21: 20 years", x.change(20), 37);
    due("21: 21 years", x.change(21), -6);
    due("21: -1 years", x.change(-1), -4);
    due("21: how many -4", x.count(14), 1);
    due("21: how many -6", x.count(16), 1);
  }

  private static void changeWhich() {
    due("21: no pots", Check.of("p0;p3;").change(20), -9);
    due("21: one pot", Check.of("p0;p3;jb03310;").change(20), -9);
    due("21: the least pair", Check.of("p0;p3;jb03310;jb00011;").change(1), 1);
    due("21: the greatest pair", Check.of("p0;p3;" + "jj00000;".repeat(6) + "jb03310;jb00011;")
        .change(1), 67);
    due("21: one owner", Check.of("p0;p3;jb03310;jb00010;").change(1), -9);
    due("21: as much is not more", Check.of("p0;p0;jj00010;jj00011;").change(1), -9);
    due("21: less is not more", Check.of("p0;p3;jb00010;jb03311;").change(1), -9);
    // Without POT 0 the first opens POT 1: 0 instead of -1; the other is at -1 with it or without.
    due("21: 1 more is more", Check.of("p0;p0;jj01010;js42110;jj00001;").change(1), 2);
    due("21: by 2", Check.of("p0;p1;jb01110;jb00011;").change(1), 1);
    due("21: alike: the first", Check.of("p0;p3;jb03310;jb00011;jb00011;").change(1), 1);
  }

  private static void giftAtBounds() {
    // The first has 19 spoons, the other 30.
    LabelsByAnotherHand x = Check.of("p0;p0;jj00090;jj00090;jj00010;"
        + "jj00091;jj00091;jj00011;jj00021;jj00091;");
    due("22: 0 years", x.gift(0), -9);
    due("22: 19 years", x.gift(19), -9);
    due("22: 20 years", x.gift(20), 30);
    due("22: 21 years", x.gift(21), -6);
    due("22: -1 years", x.gift(-1), -4);
    due("22: how many -4", x.count(14), 1);
    due("22: how many -6", x.count(16), 1);
  }

  private static void giftWhich() {
    due("22: no pots", Check.of("p0;p0;").gift(20), -9);
    due("22: nobody else", Check.of("p0;jb03390;").gift(20), -9);
    due("22: not to nobody", Check.of("p0;ja93090;").gift(1), -9);
    due("22: not to nobody, of five", Check.of("p0;p0;p0;p0;p0;" + "ja93090;".repeat(8))
        .gift(1), -9);
    due("22: the first to the first", Check.of("p0;p0;jt00021;jt00021;").gift(2), 0);
    due("22: the last to the last", Check.of("p3;p3;p3;p3;p0;" + "jj00000;".repeat(7) + "jb00090;")
        .gift(1), 74);
    due("22: as much is not more", Check.of("p0;p0;jj00010;").gift(1), -9);
    due("22: alike: the least of people", Check.of("p0;p0;p0;jj00010;jj00010;").gift(1), 1);
  }

  private static void fewestAtBounds() {
    LabelsByAnotherHand x = Check.of("p0;");
    due("28: 0 years", x.fewest(0), 0);
    due("28: 19 years", x.fewest(19), 0);
    due("28: 20 years", x.fewest(20), -9);
    due("28: 21 years", x.fewest(21), -6);
    due("28: -1 years", x.fewest(-1), -4);
    // 1 stays behind 20 years: one spoon gains nothing.
    due("28: grace 1 is enough", Check.of("p0;jh01010;").fewest(20), 0);
    due("28: grace 0 is not", Check.of("p0;jj01010;").fewest(20), 1);
    x.years(20);
    due("28: grace 0 now", x.fewest(0), -9);
    LabelsByAnotherHand later = Check.of("p0;ja93020;jt01190;");
    due("28: grace 0 in between", later.fewest(3), 1);
    due("28: grace 10 before it", later.fewest(1), 0);
    due("28: one of two has none", Check.of("p0;p0;jj00090;").fewest(20), -9);
  }

  private static void fewestWhich() {
    LabelsByAnotherHand all = Check.of("p0;p0;p0;p0;"
        + "ja93090;ja93091;ja93092;ja93093;ja93090;ja93091;ja93092;ja93093;");
    due("28: 1 year", all.fewest(1), 0);
    due("28: 2 years: all 8", all.fewest(2), 255);
    due("28: 20 years: all 8", all.fewest(20), 255);
    due("28: only the last", Check.of("p0;" + "jj00010;".repeat(7) + "ja93090;").fewest(20), 128);
    due("28: only the first", Check.of("p0;ja93090;" + "jj00010;".repeat(7)).fewest(20), 1);
    due("28: of several the least", Check.of("p0;ja93010;ja93010;").fewest(2), 1);
    // POTS 0 and 1 together leave 8, POT 2 alone 16, either of the first two alone 0.
    due("28: one, though two with lesser numbers do",
        Check.of("p0;jt00310;jt00310;ja90320;").fewest(4), 4);
  }

  private static void warnAtBounds() {
    LabelsByAnotherHand x = Check.of("p0;" + TWENTY_NINE + "jj00300;jj00300;jj00300;" + BAD_LAST);
    due("29: 0 years", x.warn(0, 0), -9);
    due("29: 29 years", x.warn(0, 29), -9);
    due("29: 30 years", x.warn(0, 30), 7);
    due("29: 31 years", x.warn(0, 31), -6);
    due("29: -1 years", x.warn(0, -1), -4);
    due("29: nobody 1", x.warn(1, -1), -1);
    due("29: nobody -1", x.warn(-1, 31), -1);
    due("29: without pots", Check.of("p0;").warn(0, 30), -9);
    due("29: none is full", Check.of("p0;jt00300;").warn(0, 30), -9);
    due("29: the first", Check.of("p0;jt00310;jj00090;").warn(0, 10), 0);
    due("29: 1 lost either way", Check.of("p0;jj01010;").warn(0, 1), -9);
    due("29: 2 lost", Check.of("p0;jj02010;").warn(0, 1), 0);
    due("29: of the last", Check.of("p0;p0;p0;p0;p0;jj02014;").warn(4, 1), 0);
    due("29: not another's", Check.of("p0;p0;p0;p0;p0;jj02014;").warn(3, 1), -9);
    due("29: of several the least", Check.of("p0;jj02010;jj02010;").warn(0, 2), 0);
    due("29: the most", Check.of("p0;jj02010;jj03010;").warn(0, 2), 1);
  }

  private static void heirAtBounds() {
    LabelsByAnotherHand x = Check.of("p0;p0;" + TWENTY_NINE + BAD_LAST);
    due("30: 0 years: the least", x.heir(4, 0), 0);
    due("30: 29 years: alike", x.heir(4, 29), 0);
    due("30: 30 years", x.heir(4, 30), 1);
    due("30: 31 years", x.heir(4, 31), -6);
    due("30: -1 years", x.heir(4, -1), -4);
    due("30: pot 5", x.heir(5, -1), -1);
    due("30: pot -1", x.heir(-1, 31), -1);
    LabelsByAnotherHand last = Check.of("p3;p3;p3;p3;p0;" + "jb00010;".repeat(8));
    due("30: the last pot to the last", last.heir(7, 1), 4);
    due("30: whose it is", Check.of("p3;p3;p3;p3;p0;jb00014;").heir(0, 1), 4);
    due("30: alone", Check.of("p0;ja93090;").heir(0, 1), 0);
    due("30: alone, 30 years", Check.of("p0;ja93090;").heir(0, 30), 0);
    due("30: of five alike", Check.of("p0;p0;p0;p0;p0;ja93094;").heir(0, 1), 0);
    // From 0 each: the second likes it, and has 2, then 1, then 0.
    LabelsByAnotherHand least = Check.of("p3;p0;y20;jb00010;");
    due("30: 2 is most", least.heir(0, 1), 1);
    due("30: 1 is most", least.heir(0, 2), 1);
    due("30: 0 is most", least.heir(0, 3), 0);
    due("30: alike: the least, not whose it is", Check.of("p0;p0;jj00011;").heir(0, 1), 0);
  }

  private static void twoAtBounds() {
    LabelsByAnotherHand x = Check.of("p0;p0;" + TWENTY_NINE + BAD_LAST + "jj00091;");
    due("31: 0 years", x.two(4, 5, 0), 0);
    due("31: 29 years", x.two(4, 5, 29), 0);
    due("31: 30 years", x.two(4, 5, 30), 10);
    due("31: 30 years, the other way", x.two(5, 4, 30), 1);
    due("31: 31 years", x.two(4, 5, 31), -6);
    due("31: -1 years", x.two(4, 5, -1), -4);
    LabelsByAnotherHand bad = Check.of("p0;p0;jt03090;jt03091;");
    due("31: 1 year, both", bad.two(0, 1, 1), 11);
    // Both are at 0 behind 20 years, thrown away or not: then it is not.
    due("31: 19 years", bad.two(0, 1, 19), 11);
    due("31: 20 years", bad.two(0, 1, 20), 0);
    LabelsByAnotherHand one = Check.of("p0;p0;jj01010;jj02011;");
    due("31: 1 lost either way, 2 lost", one.two(0, 1, 1), 1);
    LabelsByAnotherHand most = Check.of("p0;p0;p0;p0;p0;" + "jt00010;".repeat(7) + "jt03014;");
    due("31: the first and the last pot", most.two(0, 7, 1), 1);
    due("31: the last and the first pot", most.two(7, 0, 1), 10);
  }

  private static void twoStates() {
    LabelsByAnotherHand x = Check.of("p0;p0;jj00010;jj00011;jj00010;");
    due("31: full 1", x.two(0, 1, 1), 0);
    x.fills(1, 0);
    due("31: the other is empty", x.two(0, 1, 1), -3);
    due("31: the first is empty", x.two(1, 0, 1), -3);
    x.fills(0, 0);
    due("31: both are empty", x.two(0, 1, 1), -3);
    x.fills(0, 1);
    due("31: both are of one", x.two(0, 2, 1), -3);
    due("31: how many", x.count(13), 4);
    due("31: one twice", x.two(0, 0, 1), -1);
    due("31: one twice, empty, above", x.two(1, 1, 31), -1);
    due("31: empty, above", x.two(0, 1, 31), -6);
    due("31: empty, below", x.two(0, 1, -1), -4);
    due("31: pot 3", x.two(3, 0, 1), -1);
    due("31: pot -1", x.two(0, -1, 1), -1);
    due("31: pot 3 twice", x.two(3, 3, -1), -1);
  }

  private static void errsAtBounds() {
    LabelsByAnotherHand x = Check.of("p0;jj01090;");
    long[][] due = {
      // n, t, v, above, below.
      {0, 2, 0, 1, 1}, {0, 20, 20, 1, 1}, {0, 20, 21, 0, 1}, {0, 2, 99, 0, 1},
      {1, 2, 22, 1, 2}, {1, 20, 22, 1, 20}, {1, 20, 19, 1, 1}, {1, 20, 20, 1, 20},
      {1, 3, 23, 0, 1}, {7, 2, 34, 1, 128}, {7, 20, 34, 47045881, 1280000000}, {7, 20, 0, 1, 1},
      {7, 20, 35, 0, 1}, {7, 2, 99, 0, 1}
    };
    for (long[] one : due) {
      String what = "32: errs(0, " + one[0] + ", " + one[1] + ", " + one[2] + ")";
      due(what + " above", x.errs(0, (int) one[0], (int) one[1], (int) one[2], 0), one[3]);
      due(what + " below", x.errs(0, (int) one[0], (int) one[1], (int) one[2], 1), one[4]);
    }
    due("32: t 1", x.errs(0, 0, 1, 0, 0), 4000000000000000004L);
    due("32: t 21", x.errs(0, 0, 21, 0, 0), 4000000000000000006L);
    due("32: n 8", x.errs(0, 8, 2, 0, 0), 4000000000000000006L);
    due("32: n -1", x.errs(0, -1, 2, 0, 0), 4000000000000000004L);
    due("32: v 100", x.errs(0, 0, 2, 100, 0), 4000000000000000006L);
    due("32: v -1", x.errs(0, 0, 2, -1, 0), 4000000000000000004L);
    due("32: part 2", x.errs(0, 0, 2, 0, 2), 4000000000000000002L);
    due("32: part -1", x.errs(0, 0, 2, 0, -1), 4000000000000000002L);
    due("32: nobody", x.errs(1, 8, 1, 100, 2), 4000000000000000001L);
    LabelsByAnotherHand most = Check.of("p0;jt00090;jt00090;jt00090;y20;");
    due("32: 99 is 99 or more", most.errs(0, 0, 2, 99, 0), 1);
    most.fills(0, 0);
    most.fills(1, 0);
    most.fills(2, 0);
    due("32: without spoons 98", most.errs(0, 1, 2, 99, 0), 0);
    due("32: 98 is 98 or more", most.errs(0, 1, 2, 98, 0), 1);
    most.years(60);
    most.years(60);
    due("32: 0 is 0 or more", most.errs(0, 7, 20, 0, 0), 1);
    due("32: 0 is not 1 or more", most.errs(0, 7, 20, 1, 0), 0);
    LabelsByAnotherHand five = Check.of("p0;p0;p0;p0;p0;jj01014;");
    due("32: the last", five.errs(4, 1, 20, 22, 1), 20);
    due("32: the first is without", five.errs(0, 1, 20, 19, 1), 1);
  }

  /** All of these are in thought only, also where all is full. */
  private static void nothingChanges() {
    for (Twins twins : new Twins[] {Villages.some(), Villages.full()}) {
      asked(twins, "13: grace", x -> x.personThen(0, 60, 0));
      asked(twins, "13: opens", x -> x.personThen(1, 60, 1));
      asked(twins, "14", x -> x.fullThen(0, 60));
      asked(twins, "15", x -> x.graceThen(60));
      asked(twins, "16", x -> x.graceless(1));
      asked(twins, "16: first", x -> x.graceless(-1));
      asked(twins, "17", x -> x.empties(1));
      asked(twins, "18", x -> x.label(1, 30));
      asked(twins, "19", x -> x.honest(1));
      asked(twins, "20", x -> x.audit(30, 0));
      asked(twins, "20: blank", x -> x.audit(30, 1));
      asked(twins, "21", x -> x.change(20));
      asked(twins, "22", x -> x.gift(20));
      asked(twins, "23", x -> x.deal(-1));
      asked(twins, "24", x -> x.worst(0));
      asked(twins, "25", x -> x.trust(0));
      asked(twins, "26", x -> x.shelf(0, 0));
      asked(twins, "27", x -> x.sorts(2));
      asked(twins, "28", x -> x.fewest(20));
      asked(twins, "29", x -> x.warn(0, 30));
      asked(twins, "30", x -> x.heir(0, 30));
      asked(twins, "32", x -> x.errs(0, 7, 20, 20, 0));
      asked(twins, "33", x -> x.mean(1));
      asked(twins, "34", x -> x.whatIn(0, 0));
      asked(twins, "34: kinds", x -> x.whatIn(0, 1));
      asked(twins, "38", x -> x.lots(20, 5, 0));
    }
    Villages.some().asked(CHECK, "31: two(0, 1, 30)", x -> x.two(0, 1, 30), 0);
  }

  private static void asked(Twins twins, String what,
      ToLongFunction<LabelsByAnotherHand> call) {
    twins.asked(CHECK, what, call, call.applyAsLong(twins.one()));
  }
}
