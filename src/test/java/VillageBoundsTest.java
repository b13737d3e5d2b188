/** Promises 1 to 3 at their bounds: nothing there, letters one by one, STATEMENTS and FAULTS. */
public final class VillageBoundsTest {
  private static final Check CHECK = new Check("VillageBoundsTest");

  /** For each STATEMENT what may stand at each of its places: D a digit, K a letter of a KIND. */
  private static final String[] FORMS = {"pD;", "jKDDDDD;", "lDD;", "gDD;", "kDD;", "fDD;", "yDD;"};
  private static final String FIRST_LETTERS = "pjlgkfy";
  private static final String KINDS = "jtsahb";

  private static void due(String what, long got, long want) {
    CHECK.due(what, got, want);
  }

  private static int told(String letters) {
    return Check.tell(new LabelsByAnotherHand(), letters);
  }

  public static void main(String[] args) {
    nothingThere();
    letterByLetter();
    ninetySix();
    everyLetterAtEveryPlace();
    somethingLacks();
    longestVillages();
    people();
    potsByDigits();
    potsByOwner();
    potStatements();
    personStatements();
    yearStatements();
    lastYear();
    roomForPeople();
    roomForPots();
    soFar();
    whichFault();
    nothingComesWithFault();
    CHECK.end();
  }

  private static void nothingThere() {
    Twins bare = Villages.bare();
    for (int what = 0; what <= 7; what++) {
      int asked = what;
      bare.asked(CHECK, "1: count(" + what + ")", x -> x.count(asked), 0);
    }
    for (int what = 11; what <= 16; what++) {
      due("1: count(" + what + ")", new LabelsByAnotherHand().count(what), 0);
    }
    for (int i = 0; i < 8; i++) {
      due("1: no pot " + i, new LabelsByAnotherHand().pot(i, 0), -1);
      due("1: nobody " + i, new LabelsByAnotherHand().person(i, 0), -1);
    }
    due("1: year 0", new LabelsByAnotherHand().image(), 0);
    due("1: no image", new LabelsByAnotherHand().on(), -3);
    due("1: no letters", new LabelsByAnotherHand().letter('p'), 1);
    due("1: an empty row", new LabelsByAnotherHand().row(0), 1);
    due("1: an empty row, cleared", new LabelsByAnotherHand().clear(), 0);
    LabelsByAnotherHand x = Check.of("p3;");
    due("1: grace 20 at first", x.person(0, 1), 20);
  }

  private static void letterByLetter() {
    LabelsByAnotherHand x = new LabelsByAnotherHand();
    int many = 0;
    for (int c = 0; c <= 255; c++) {
      if (many == 96) {
        x = new LabelsByAnotherHand();
        many = 0;
      }
      many++;
      due("2: letter(" + c + ")", x.letter(c), many);
    }
    LabelsByAnotherHand between = new LabelsByAnotherHand();
    due("2: p", between.letter('p'), 1);
    due("2: 256", between.letter(256), -6);
    due("2: 0", between.letter('0'), 2);
    due("2: -1", between.letter(-1), -4);
    due("2: ;", between.letter(';'), 3);
    due("2: what was refused is not among them", between.village(), 1);
    // As a char each of these would be one that fits.
    due("2: p and 65536", between.letter('p' + 65536), -6);
    due("2: p less 65536", between.letter('p' - 65536), -4);
    due("2: p and 256", between.letter('p' + 256), -6);
    due("2: none of them came", between.count(7), 0);
  }

  private static void ninetySix() {
    LabelsByAnotherHand x = new LabelsByAnotherHand();
    Check.letters(x, Villages.LONGEST.substring(0, 95));
    due("2: 95", x.count(7), 95);
    due("2: the 96th", x.letter(';'), 96);
    due("2: the 97th", x.letter(';'), -6);
    due("2: the 97th, 0", x.letter(0), -6);
    due("2: the 97th, 255", x.letter(255), -6);
    due("2: the 97th, 256", x.letter(256), -6);
    due("2: the 97th, below", x.letter(-1), -4);
    due("2: 96 stay", x.count(7), 96);
    due("2: no pot 0 so far", x.village(), -2000);
    due("2: none stay", x.count(7), 0);
    due("2: there is room again", x.letter(255), 1);
  }

  private static boolean mayStand(char form, int c) {
    switch (form) {
      case 'D':
        return c >= '0' && c <= '9';
      case 'K':
        return KINDS.indexOf(c) >= 0;
      default:
        return c == form;
    }
  }

  private static char example(char form) {
    return form == 'D' ? '0' : form == 'K' ? 'j' : form;
  }

  /** The first i letters of a STATEMENT of this form. */
  private static String begun(String form, int i) {
    StringBuilder text = new StringBuilder();
    for (int k = 0; k < i; k++) {
      text.append(example(form.charAt(k)));
    }
    return text.toString();
  }

  private static void everyLetterAtEveryPlace() {
    for (String before : new String[] {"", "p0;", "p0;jj00000;"}) {
      for (int c = 0; c <= 255; c++) {
        boolean isFirst = FIRST_LETTERS.indexOf(c) >= 0;
        int place = before.length() + (isFirst ? 1 : 0);
        due("3: " + before + " and letter " + c, told(before + (char) c), -1000 - place);
      }
      for (String form : FORMS) {
        for (int i = 1; i < form.length(); i++) {
          everyLetterAt(before, form, i);
        }
      }
    }
  }

  private static void everyLetterAt(String before, String form, int i) {
    int place = before.length() + i;
    for (int c = 0; c <= 255; c++) {
      int answer = told(before + begun(form, i) + (char) c);
      String what = "3: " + before + begun(form, i) + " and letter " + c;
      if (!mayStand(form.charAt(i), c)) {
        due(what + " can't go on", answer, -1000 - place);
      } else if (i + 1 < form.length()) {
        due(what + " lacks the rest", answer, -1000 - place - 1);
      } else {
        CHECK.holds(what + " is whole: " + answer, answer > 0 || answer <= -2000);
      }
    }
  }

  private static void somethingLacks() {
    due("3: no letters", told(""), -1000);
    due("3: no statement", told(";"), -1000);
    due("3: two ends", told("p0;;"), -1003);
    for (String form : FORMS) {
      for (int i = 1; i < form.length(); i++) {
        due("3: lacks behind " + begun(form, i), told(begun(form, i)), -1000 - i);
        due("3: lacks behind p0;" + begun(form, i), told("p0;" + begun(form, i)), -1003 - i);
      }
      String whole = begun(form, form.length());
      due("3: " + whole + " and a digit", told(whole + "0"), -1000 - form.length());
    }
  }

  private static void longestVillages() {
    String twentyThree = "y01;".repeat(23);
    due("3: 96 letters", told(twentyThree + "y01;"), 24);
    due("3: 95 letters", told(twentyThree + "p0;"), 24);
    due("3: 95 letters, the end lacks", told(twentyThree + "y01"), -1095);
    due("3: 96 letters, the end lacks", told(twentyThree + "p0;p"), -1096);
    due("3: 96 letters, the last can't be", told(twentyThree + "y010"), -1095);
    due("3: 96 letters, the last statement", told(twentyThree + "y00;"), -2092);
    due("3: 96 letters, the first statement", told("y61;" + twentyThree), -2000);
    due("3: 96 letters, the first can't be", told("x01;" + twentyThree), -1000);
    LabelsByAnotherHand x = Check.of(Villages.MOST);
    due("3: 24 statements", Check.tell(x, Villages.LONGEST), 24);
    due("3: the first", x.pot(0, 3), 1);
    due("3: the last", x.pot(6, 5), 4);
  }

  private static void people() {
    for (int digit = 0; digit <= 9; digit++) {
      LabelsByAnotherHand x = new LabelsByAnotherHand();
      due("3: p" + digit, Check.tell(x, "p" + digit + ";"), digit <= 5 ? 1 : -2000);
      due("3: people by p" + digit, x.count(1), digit <= 5 ? 1 : 0);
      due("3: likes by p" + digit, x.person(0, 0), digit <= 5 ? digit : -1);
    }
  }

  /** FIGURE, HOLDS, LABEL, FULL: the greatest digit of each. */
  private static void potsByDigits() {
    int[] greatest = {9, 5, 6, 9};
    for (int i = 0; i < greatest.length; i++) {
      for (int digit = 0; digit <= 9; digit++) {
        StringBuilder text = new StringBuilder("p0;jb00000;");
        text.setCharAt(5 + i, (char) ('0' + digit));
        LabelsByAnotherHand x = new LabelsByAnotherHand();
        boolean isSo = digit <= greatest[i];
        due("3: " + text, Check.tell(x, text.toString()), isSo ? 2 : -2003);
        due("3: pots by " + text, x.count(0), isSo ? 1 : 0);
        due("3: people by " + text, x.count(1), isSo ? 1 : 0);
        due("3: its digit by " + text, x.pot(0, 1 + i), isSo ? digit : -1);
        due("3: its kind by " + text, x.pot(0, 0), isSo ? 5 : -1);
      }
    }
    for (int kind = 0; kind < 6; kind++) {
      LabelsByAnotherHand x = Check.of("p0;j" + KINDS.charAt(kind) + "00000;");
      due("3: kind " + KINDS.charAt(kind), x.pot(0, 0), kind);
    }
  }

  private static void potsByOwner() {
    for (int people = 0; people <= 5; people++) {
      for (int owner = 0; owner <= 9; owner++) {
        LabelsByAnotherHand x = new LabelsByAnotherHand();
        String text = "p0;".repeat(people) + "jj0000" + owner + ";";
        boolean isSo = owner < people;
        due("3: " + text, Check.tell(x, text), isSo ? people + 1 : -2000 - 3 * people);
        due("3: owner by " + text, x.pot(0, 5), isSo ? owner : -1);
      }
    }
  }

  /** "l", "g" and "f" with every POT there or not, and every digit behind it. */
  private static void potStatements() {
    for (int pots = 0; pots <= 8; pots++) {
      String before = "p0;p0;p0;" + "jj00000;".repeat(pots);
      for (int pot = 0; pot <= 9; pot++) {
        for (int digit = 0; digit <= 9; digit++) {
          boolean isPot = pot < pots;
          fault(Check.of(before), "l" + pot + digit + ";", isPot && digit <= 6);
          fault(Check.of(before), "g" + pot + digit + ";", isPot && digit <= 2);
          fault(Check.of(before), "f" + pot + digit + ";", isPot);
        }
      }
    }
    LabelsByAnotherHand x = Check.of("p0;p0;p0;" + "jj00000;".repeat(8));
    due("3: the greatest", Check.tell(x, "l76;g72;f79;"), 3);
    due("3: its label", x.pot(7, 3), 6);
    due("3: its owner", x.pot(7, 5), 2);
    due("3: its spoons", x.pot(7, 4), 9);
    due("3: the least", Check.tell(x, "l70;g70;f70;"), 3);
    due("3: its label again", x.pot(7, 3), 0);
    due("3: its owner again", x.pot(7, 5), 0);
    due("3: its spoons again", x.pot(7, 4), 0);
  }

  private static void fault(LabelsByAnotherHand x, String text, boolean isSo) {
    due("3: " + text + " of " + x.count(0) + " pots, " + x.count(1) + " people",
        Check.tell(x, text), isSo ? 1 : -2000);
  }

  private static void personStatements() {
    for (int people = 0; people <= 5; people++) {
      for (int person = 0; person <= 9; person++) {
        for (int digit = 0; digit <= 9; digit++) {
          LabelsByAnotherHand x = Check.of("p0;".repeat(people));
          boolean isSo = person < people && digit <= 5;
          fault(x, "k" + person + digit + ";", isSo);
          due("3: likes " + person, x.person(person, 0), isSo ? digit : person < people ? 0 : -1);
        }
      }
    }
  }

  private static void yearStatements() {
    for (int n = 0; n <= 99; n++) {
      LabelsByAnotherHand x = new LabelsByAnotherHand();
      boolean isSo = n >= 1 && n <= 60;
      due("3: y of " + n, Check.tell(x, "y" + n / 10 + n % 10 + ";"), isSo ? 1 : -2000);
      due("3: year by y of " + n, x.count(2), isSo ? n : 0);
    }
  }

  private static void lastYear() {
    LabelsByAnotherHand x = Check.of("p0;jj00190;");
    Villages.goOn(x, 939);
    due("3: 999 less 60", Check.tell(x, "y60;"), 1);
    due("3: year 999", x.count(2), 999);
    due("3: year 1000", Check.tell(x, "y01;"), -2000);
    due("3: year 1059", Check.tell(x, "y60;"), -2000);
    due("3: others come in it", Check.tell(x, "p1;f09;l06;g01;k03;jj00000;"), 6);
    due("3: year 999 stays", x.count(2), 999);

    LabelsByAnotherHand beyond = new LabelsByAnotherHand();
    Villages.goOn(beyond, 940);
    due("3: 940 and 60", Check.tell(beyond, "y60;"), -2000);
    due("3: 940 and 59", Check.tell(beyond, "y59;"), 1);
    LabelsByAnotherHand one = new LabelsByAnotherHand();
    Villages.goOn(one, 940);
    due("3: 940, 58, 1, 1", Check.tell(one, "y58;y01;y01;"), -2008);
    due("3: nothing of it came", one.count(2), 940);
    due("3: 940, 58, 1", Check.tell(one, "y58;y01;"), 2);
    due("3: all of it came", one.count(2), 999);
    // The first 16 of these make 960.
    due("3: 16 times 60", told("y60;".repeat(16)), 16);
    due("3: 17 times 60", told("y60;".repeat(17)), -2064);
    due("3: 16 times 60, 39", told("y60;".repeat(16) + "y39;"), 17);
    due("3: 16 times 60, 40", told("y60;".repeat(16) + "y40;"), -2064);
  }

  private static void roomForPeople() {
    for (int people = 1; people <= 6; people++) {
      LabelsByAnotherHand x = new LabelsByAnotherHand();
      due("3: people " + people, Check.tell(x, "p5;".repeat(people)), people <= 5 ? people : -2015);
      due("3: there are", x.count(1), people <= 5 ? people : 0);
    }
    LabelsByAnotherHand x = Check.of("p0;p1;p2;p3;");
    due("3: a fifth and a sixth", Check.tell(x, "p4;p5;"), -2003);
    due("3: neither", x.count(1), 4);
    due("3: a fifth", Check.tell(x, "p4;"), 1);
    due("3: no room", Check.tell(x, "p0;"), -2000);
    due("3: no room, and a sort that is none", Check.tell(x, "p6;"), -2000);
    due("3: five stay", x.count(1), 5);
  }

  private static void roomForPots() {
    for (int pots = 1; pots <= 9; pots++) {
      LabelsByAnotherHand x = new LabelsByAnotherHand();
      due("3: pots " + pots, Check.tell(x, "p0;" + "jj00000;".repeat(pots)),
          pots <= 8 ? pots + 1 : -2067);
      due("3: there are", x.count(0), pots <= 8 ? pots : 0);
    }
    LabelsByAnotherHand x = Check.of("p0;" + "jj00000;".repeat(7));
    due("3: an eighth and a ninth", Check.tell(x, "jj00000;jj00000;"), -2008);
    due("3: neither", x.count(0), 7);
    due("3: an eighth", Check.tell(x, "jt00000;"), 1);
    due("3: no room", Check.tell(x, "jt00000;"), -2000);
    due("3: eight stay", x.count(0), 8);
    due("3: the eighth", x.pot(7, 0), 1);
  }

  /** What a STATEMENT speaks of must be there already. */
  private static void soFar() {
    due("3: owner behind", told("p0;jj00001;p0;"), -2003);
    due("3: owner before", told("p0;p0;jj00001;"), 3);
    due("3: pot behind", told("p0;l00;jj00000;"), -2003);
    due("3: pot before", told("p0;jj00000;l00;"), 3);
    due("3: person behind", told("k00;p0;"), -2000);
    due("3: person before", told("p0;k00;"), 2);
    LabelsByAnotherHand x = Check.of("p0;");
    due("3: of an earlier village", Check.tell(x, "jj00000;"), 1);
    due("3: and another", Check.tell(x, "p1;g01;k13;f09;l06;y01;"), 6);
    due("3: grace of the newer, 1 off none", x.person(1, 1), 19);
  }

  private static void whichFault() {
    due("3: kind 1 though kind 2 is before it", told("p9;x"), -1003);
    due("3: kind 1 far behind", told("p9;" + "y01;".repeat(22) + "y0"), -1093);
    due("3: the first of kind 1", told("p0;xx"), -1003);
    due("3: the first of kind 2", told("p0;p9;y00;l00;"), -2003);
    due("3: the first letter of it, not the wrong digit", told("p0;jj00900;"), -2003);
    due("3: upper case", told("P0;"), -1000);
    due("3: upper kind", told("p0;jJ00000;"), -1004);
    due("3: digits' neighbours", told("p/;"), -1001);
    due("3: digits' other neighbours", told("p:;"), -1001);
    due("3: a blank", told("p0; p0;"), -1003);
    due("3: letter 0", told("\0"), -1000);
    due("3: letter 255", told("\u00ff"), -1000);
  }

  private static void nothingComesWithFault() {
    String[] faults = {
      "", "x", "p1;jj00000;l03;g01;k01;f01;y09;x", "p1;jj00000;l03;g01;k01;f01;y09;y00;",
      "y60;y00;", "l06;f09;k01;g01;l99;"
    };
    for (String text : faults) {
      LabelsByAnotherHand x = Check.of("p0;p3;jj00130;y02;");
      x.image();
      x.row(1);
      int answer = Check.tell(x, text);
      CHECK.holds("3: a fault of " + text, answer <= -1000);
      due("3: pots by " + text, x.count(0), 1);
      due("3: people by " + text, x.count(1), 2);
      due("3: year by " + text, x.count(2), 2);
      due("3: grace by " + text, x.count(3), 18 + 18);
      due("3: spoons by " + text, x.count(4), 1);
      due("3: label by " + text, x.pot(0, 3), 1);
      due("3: owner by " + text, x.pot(0, 5), 0);
      due("3: likes by " + text, x.person(0, 0), 0);
      due("3: row by " + text, x.count(6), 1);
      due("3: letters by " + text, x.count(7), 0);
      for (int what = 11; what <= 16; what++) {
        due("3: refusals by " + text, x.count(what), 0);
      }
      due("3: image by " + text, x.on(), 2);
    }
  }
}
