/**
 * A village of pots that hold one sort and are labelled another. ../shared/DOC.md tells what each
 * call answers; words in capitals here are that document's words.
 */
public final class LabelsByAnotherHand {
  private static final int SORT_COUNT = 6;
  private static final int NO_LABEL = 6;
  private static final int KIND_COUNT = 6;
  private static final int MOST_POTS = 8;
  private static final int MOST_PEOPLE = 5;
  private static final int MOST_DIGIT = 9;
  private static final int FIRST_GRACE = 20;
  private static final int MOST_GRACE = 99;
  private static final int LAST_YEAR = 999;
  private static final int MOST_YEARS = 60;
  private static final int MOST_LETTER = 255;
  private static final int MOST_LETTERS = 96;
  private static final int MOST_ROW = 16;
  private static final int MOST_DEALT = 5;
  private static final int WITHOUT_SIGN = 0x7fffffff;
  private static final String KIND_LETTERS = "jtsahb";

  private static final int NOBODY = -1;
  private static final int OTHER = -2;
  private static final int STATE = -3;
  private static final int BELOW = -4;
  private static final int ROOM = -6;
  private static final int NONE = -9;
  private static final int WRONG_LETTER = -1000;
  private static final int WRONG_STATEMENT = -2000;
  private static final int FAR = 1000000000;
  private static final long FARTHEST = 4000000000000000000L;

  private final Village now = new Village();
  private final Village mind = new Village();
  private final Village kept = new Village();
  private boolean isKept = false;
  private final Letters told = new Letters();
  private final int[] row = new int[MOST_ROW];
  private int rowCount = 0;
  private final int[] refusals = new int[1 - ROOM];

  public LabelsByAnotherHand() {
  }

  public int letter(int c) {
    int fault = first(within(c, 0, MOST_LETTER), told.count < MOST_LETTERS ? 0 : ROOM);
    if (fault != 0) {
      return refuse(fault);
    }
    told.add(c);
    return told.count;
  }

  public int village() {
    int wrong = told.wrongPlace();
    int answer = wrong < 0 ? 0 : WRONG_LETTER - wrong;
    mind.become(now);
    for (int at = 0; at < told.count && answer >= 0; at += Math.max(1, told.lengthAt(at))) {
      answer = told.isObeyed(at, mind) ? answer + 1 : WRONG_STATEMENT - at;
    }
    if (answer > 0) {
      now.become(mind);
    }
    told.count = 0;
    return answer;
  }

  public int pot(int pot, int what) {
    int fault = first(potThere(pot), known(what, 5));
    if (fault != 0) {
      return refuse(fault);
    }
    switch (what) {
      case 0:
        return now.kind[pot];
      case 1:
        return now.figure[pot];
      case 2:
        return now.holds[pot];
      case 3:
        return now.label[pot];
      case 4:
        return now.full[pot];
      default:
        return now.owner[pot];
    }
  }

  public int person(int person, int what) {
    int fault = first(personThere(person), known(what, 3));
    if (fault != 0) {
      return refuse(fault);
    }
    switch (what) {
      case 0:
        return now.likes[person];
      case 1:
        return now.grace[person];
      case 2:
        return now.opened(person);
      default:
        return now.potsOf(person);
    }
  }

  public int gains(int pot, int person) {
    int fault = first(potThere(pot), personThere(person));
    return fault != 0 ? refuseFar(fault) : now.gained(pot, person);
  }

  public int labels(int pot, int label) {
    int fault = first(potThere(pot), Village.isLabel(label) ? 0 : NOBODY);
    if (fault != 0) {
      return refuse(fault);
    }
    int was = now.label[pot];
    now.label[pot] = label;
    return was;
  }

  public int gives(int pot, int person) {
    int fault = first(potThere(pot), personThere(person));
    if (fault != 0) {
      return refuse(fault);
    }
    int was = now.owner[pot];
    now.owner[pot] = person;
    return was;
  }

  public int likes(int person, int sort) {
    int fault = first(personThere(person), Village.isSort(sort) ? 0 : NOBODY);
    if (fault != 0) {
      return refuse(fault);
    }
    int was = now.likes[person];
    now.likes[person] = sort;
    return was;
  }

  public int fills(int pot, int v) {
    int fault = first(potThere(pot), within(v, 0, MOST_DIGIT));
    if (fault != 0) {
      return refuse(fault);
    }
    int was = now.full[pot];
    now.full[pot] = v;
    return was;
  }

  public int turn(int pot, int kind, int figure) {
    int fault = first(potThere(pot), known(kind, KIND_COUNT - 1), within(figure, 0, MOST_DIGIT));
    if (fault != 0) {
      return refuse(fault);
    }
    int was = 10 * now.kind[pot] + now.figure[pot];
    now.kind[pot] = kind;
    now.figure[pot] = figure;
    return was;
  }

  public int years(int n) {
    int fault = first(within(n, 1, MOST_YEARS), now.year <= LAST_YEAR - n ? 0 : ROOM);
    if (fault != 0) {
      return refuse(fault);
    }
    now.pass(n);
    return now.allGrace();
  }

  public int personThen(int person, int n, int what) {
    int fault = first(personThere(person), within(n, 0, MOST_YEARS), known(what, 1));
    if (fault != 0) {
      return refuse(fault);
    }
    mind.become(now);
    mind.passFor(person, n);
    return what == 0 ? mind.grace[person] : mind.opened(person);
  }

  public int fullThen(int pot, int n) {
    int fault = first(potThere(pot), within(n, 0, MOST_YEARS));
    if (fault != 0) {
      return refuse(fault);
    }
    mind.become(now);
    mind.passFor(mind.owner[pot], n);
    return mind.full[pot];
  }

  public int graceThen(int n) {
    int fault = within(n, 0, MOST_YEARS);
    return fault != 0 ? refuse(fault) : allGraceBehind(n);
  }

  public int graceless(int person) {
    if (person == -1) {
      return firstGraceless();
    }
    int fault = personThere(person);
    if (fault != 0) {
      return refuse(fault);
    }
    mind.become(now);
    for (int n = 0; n <= MOST_YEARS; n++) {
      if (mind.grace[person] == 0) {
        return n;
      }
      mind.passFor(person, 1);
    }
    return NONE;
  }

  private int firstGraceless() {
    mind.become(now);
    for (int n = 0; n <= MOST_YEARS; n++) {
      for (int person = 0; person < mind.people; person++) {
        if (mind.grace[person] == 0) {
          return person;
        }
      }
      mind.pass(1);
    }
    return NONE;
  }

  public int empties(int pot) {
    int fault = potThere(pot);
    if (fault != 0) {
      return refuse(fault);
    }
    mind.become(now);
    for (int n = 0; n <= MOST_YEARS; n++) {
      if (mind.full[pot] == 0) {
        return n;
      }
      mind.passFor(mind.owner[pot], 1);
    }
    return NONE;
  }

  public int label(int pot, int n) {
    int fault = first(potThere(pot), within(n, 0, 30));
    if (fault != 0) {
      return refuse(fault);
    }
    int owner = now.owner[pot];
    int best = 0;
    int most = -1;
    for (int label = 0; label <= NO_LABEL; label++) {
      mind.become(now);
      mind.label[pot] = label;
      mind.passFor(owner, n);
      if (mind.grace[owner] > most) {
        most = mind.grace[owner];
        best = label;
      }
    }
    return best;
  }

  public int honest(int what) {
    int fault = known(what, 1);
    if (fault != 0) {
      return refuse(fault);
    }
    return what == 0 ? now.honestPots() : now.hopefulPots();
  }

  public int audit(int n, int what) {
    int fault = first(within(n, 0, 30), known(what, 1));
    if (fault != 0) {
      return refuseFar(fault);
    }
    int asIs = allGraceBehind(n);
    mind.become(now);
    for (int pot = 0; pot < mind.pots; pot++) {
      mind.label[pot] = what == 0 ? mind.holds[pot] : NO_LABEL;
    }
    mind.pass(n);
    return mind.allGrace() - asIs;
  }

  public int change(int n) {
    int fault = within(n, 0, 20);
    if (fault != 0) {
      return refuse(fault);
    }
    int most = allGraceBehind(n);
    int best = NONE;
    for (int lesser = 0; lesser < now.pots; lesser++) {
      for (int other = lesser + 1; other < now.pots; other++) {
        int grace = allGraceChanged(lesser, other, n);
        if (grace > most) {
          most = grace;
          best = 10 * lesser + other;
        }
      }
    }
    return best;
  }

  private int allGraceChanged(int lesser, int other, int n) {
    mind.become(now);
    mind.owner[lesser] = now.owner[other];
    mind.owner[other] = now.owner[lesser];
    mind.pass(n);
    return mind.allGrace();
  }

  public int gift(int n) {
    int fault = within(n, 0, 20);
    if (fault != 0) {
      return refuse(fault);
    }
    int most = allGraceBehind(n);
    int best = NONE;
    for (int pot = 0; pot < now.pots; pot++) {
      for (int person = 0; person < now.people; person++) {
        int grace = allGraceGiven(pot, person, n);
        if (grace > most) {
          most = grace;
          best = 10 * pot + person;
        }
      }
    }
    return best;
  }

  private int allGraceGiven(int pot, int person, int n) {
    mind.become(now);
    mind.owner[pot] = person;
    mind.pass(n);
    return mind.allGrace();
  }

  public int deal(int i) {
    if (i < -1) {
      return refuseFar(BELOW);
    }
    int together = 0;
    int dealt = 0;
    for (int pot = 0; pot < now.pots && dealt < MOST_DEALT; pot++) {
      if (now.full[pot] > 0) {
        // What one POT GAINS is the same whosever the others are: each goes by itself.
        int best = whoGainsMost(pot);
        if (dealt == i) {
          return best;
        }
        together += now.gained(pot, best);
        dealt++;
      }
    }
    return i == -1 ? together : NONE;
  }

  private int whoGainsMost(int pot) {
    int best = 0;
    for (int person = 1; person < now.people; person++) {
      if (now.gained(pot, person) > now.gained(pot, best)) {
        best = person;
      }
    }
    return best;
  }

  public int worst(int what) {
    int fault = known(what, 1);
    if (fault != 0) {
      return refuseFar(fault);
    }
    int which = NONE;
    int least = 0;
    for (int pot = 0; pot < now.pots; pot++) {
      if (now.full[pot] > 0) {
        int gained = now.gained(pot, now.owner[pot]);
        if (which == NONE || gained < least) {
          which = pot;
          least = gained;
        }
      }
    }
    return what == 0 ? which : least;
  }

  public int trust(int person) {
    int fault = personThere(person);
    if (fault != 0) {
      return refuse(fault);
    }
    int trusted = 0;
    for (int pot = 0; pot < now.pots; pot++) {
      if (now.canOpen(person, pot) && now.gained(pot, person) > 0) {
        trusted++;
      }
    }
    return trusted;
  }

  public int shelf(int person, int i) {
    int fault = first(personThere(person), i < 0 ? BELOW : 0);
    if (fault != 0) {
      return refuse(fault);
    }
    int place = 0;
    for (int label = 0; label <= NO_LABEL; label++) {
      for (int pot = 0; pot < now.pots; pot++) {
        if (now.owner[pot] == person && now.label[pot] == label) {
          if (place == i) {
            return pot;
          }
          place++;
        }
      }
    }
    return NONE;
  }

  public int sorts(int what) {
    int fault = known(what, 2);
    if (fault != 0) {
      return refuse(fault);
    }
    switch (what) {
      case 0:
        return now.sortsHeld();
      case 1:
        return now.mostHeld();
      default:
        return now.sortsOnLabels() & ~now.sortsHeld();
    }
  }

  public int fewest(int n) {
    int fault = within(n, 0, 20);
    if (fault != 0) {
      return refuse(fault);
    }
    int bits = 0;
    for (int person = 0; person < now.people; person++) {
      // Nobody's LABELS touch another's GRACE: the fewest of each are the fewest of all.
      int his = fewestOf(person, n);
      if (his == NONE) {
        return NONE;
      }
      bits |= his;
    }
    return bits;
  }

  private int fewestOf(int person, int n) {
    int mayChange = now.potsOf(person) & ~now.honestPots();
    int best = NONE;
    for (int bits = 0; bits <= mayChange; bits++) {
      boolean isFewer = best == NONE || Integer.bitCount(bits) < Integer.bitCount(best);
      if (isFewer && (bits & ~mayChange) == 0 && keepsGrace(person, bits, n)) {
        best = bits;
      }
    }
    return best;
  }

  private boolean keepsGrace(int person, int changed, int n) {
    mind.become(now);
    for (int pot = 0; pot < mind.pots; pot++) {
      if ((changed >> pot & 1) == 1) {
        mind.label[pot] = mind.holds[pot];
      }
    }
    for (int year = 0; year < n && mind.grace[person] > 0; year++) {
      mind.passFor(person, 1);
    }
    return mind.grace[person] > 0;
  }

  public int warn(int person, int n) {
    int fault = first(personThere(person), within(n, 0, 30));
    if (fault != 0) {
      return refuse(fault);
    }
    int most = graceBehind(person, n);
    int best = NONE;
    for (int pot = 0; pot < now.pots; pot++) {
      if (now.owner[pot] == person) {
        int grace = ownersGraceWithout(pot, n);
        if (grace > most) {
          most = grace;
          best = pot;
        }
      }
    }
    return best;
  }

  public int heir(int pot, int n) {
    int fault = first(potThere(pot), within(n, 0, 30));
    if (fault != 0) {
      return refuse(fault);
    }
    int best = 0;
    int most = -1;
    for (int person = 0; person < now.people; person++) {
      int grace = allGraceGiven(pot, person, n);
      if (grace > most) {
        most = grace;
        best = person;
      }
    }
    return best;
  }

  public int two(int a, int b, int n) {
    int fault = first(first(potThere(a), potThere(b), a == b ? NOBODY : 0), within(n, 0, 30));
    if (fault == 0 && (now.full[a] == 0 || now.full[b] == 0 || now.owner[a] == now.owner[b])) {
      fault = STATE;
    }
    if (fault != 0) {
      return refuse(fault);
    }
    // Neither's POT touches the other's GRACE: each does what is best for his own GRACE, whatever
    // the other does, so that there always is such a pair.
    return 10 * (isBetterWithout(a, n) ? 1 : 0) + (isBetterWithout(b, n) ? 1 : 0);
  }

  private boolean isBetterWithout(int pot, int n) {
    return ownersGraceWithout(pot, n) > graceBehind(now.owner[pot], n);
  }

  public long errs(int person, int n, int t, int v, int part) {
    int fault = first(personThere(person),
        n < 0 || v < 0 || t < 2 ? BELOW : 0,
        first(n > 7 || t > 20 || v > MOST_GRACE ? ROOM : 0, known(part, 1)));
    if (fault != 0) {
      return refuseFarthest(fault);
    }
    long ways = 0;
    for (int errors = 0; errors < 1 << n; errors++) {
      if (graceIfErring(person, n, errors) >= v) {
        ways += power(t - 1, n - Integer.bitCount(errors));
      }
    }
    return ofFraction(ways, power(t, n), part);
  }

  private int graceIfErring(int person, int n, int errors) {
    mind.become(now);
    for (int year = 0; year < n; year++) {
      if ((errors >> year & 1) == 1) {
        mind.labelsOneOn();
      }
      mind.passFor(person, 1);
    }
    return mind.grace[person];
  }

  public long mean(int part) {
    int fault = known(part, 1);
    if (fault != 0) {
      return refuseFarthest(fault);
    }
    return ofFraction(now.allGrace(), Math.max(1, now.people), part);
  }

  public int whatIn(int pot, int what) {
    int fault = first(potThere(pot), known(what, 1));
    if (fault != 0) {
      return refuse(fault);
    }
    int choices = what == 0 ? SORT_COUNT : KIND_COUNT;
    int could = 0;
    for (int i = 0; i < choices; i++) {
      mind.become(now);
      if (what == 0) {
        mind.holds[pot] = i;
      } else {
        mind.kind[pot] = i;
      }
      if (goesAsRow(mind.owner[pot])) {
        could |= 1 << i;
      }
    }
    return could;
  }

  private boolean goesAsRow(int person) {
    for (int i = 0; i < rowCount; i++) {
      if (mind.grace[person] != row[i]) {
        return false;
      }
      mind.passFor(person, 1);
    }
    return true;
  }

  public int row(int v) {
    int fault = first(within(v, 0, MOST_GRACE), rowCount < MOST_ROW ? 0 : ROOM);
    if (fault != 0) {
      return refuse(fault);
    }
    row[rowCount] = v;
    rowCount++;
    return rowCount;
  }

  public int judge() {
    int wrong = NONE;
    for (int i = 0; i < rowCount && wrong == NONE; i++) {
      if (!now.hasPot(i) || now.label[i] != row[i]) {
        wrong = i;
      }
    }
    rowCount = 0;
    return wrong;
  }

  public int clear() {
    int had = rowCount;
    rowCount = 0;
    return had;
  }

  public int lots(int n, int z, int what) {
    int fault = first(within(n, 1, 20), known(what, 1));
    if (fault != 0) {
      return refuse(fault);
    }
    int seed = z;
    int together = 0;
    int without = 0;
    for (int i = 0; i < n; i++) {
      mind.become(now);
      for (int pot = 0; pot < mind.pots; pot++) {
        seed = nextSeed(seed);
        mind.label[pot] = drawn(seed, NO_LABEL + 1);
        seed = nextSeed(seed);
        mind.full[pot] = drawn(seed, MOST_DIGIT + 1);
      }
      mind.pass(6);
      together += mind.allGrace();
      without += mind.withoutGrace();
    }
    return what == 0 ? together : without;
  }

  public int image() {
    kept.become(now);
    isKept = true;
    return now.year;
  }

  public int on() {
    if (!isKept) {
      return refuse(STATE);
    }
    now.become(kept);
    return now.year;
  }

  public int count(int what) {
    if (what >= 11 && what <= 16) {
      return refusals[what - 10];
    }
    switch (what) {
      case 0:
        return now.pots;
      case 1:
        return now.people;
      case 2:
        return now.year;
      case 3:
        return now.allGrace();
      case 4:
        return now.spoons();
      case 5:
        return Integer.bitCount(now.honestPots());
      case 6:
        return rowCount;
      case 7:
        return told.count;
      default:
        return NONE;
    }
  }

  private int allGraceBehind(int n) {
    mind.become(now);
    mind.pass(n);
    return mind.allGrace();
  }

  private int graceBehind(int person, int n) {
    mind.become(now);
    mind.passFor(person, n);
    return mind.grace[person];
  }

  private int ownersGraceWithout(int pot, int n) {
    int owner = now.owner[pot];
    mind.become(now);
    mind.full[pot] = 0;
    mind.passFor(owner, n);
    return mind.grace[owner];
  }

  private int refuse(int fault) {
    refusals[-fault]++;
    return fault;
  }

  private int refuseFar(int fault) {
    return FAR - refuse(fault);
  }

  private long refuseFarthest(int fault) {
    return FARTHEST - refuse(fault);
  }

  private int potThere(int pot) {
    return now.hasPot(pot) ? 0 : NOBODY;
  }

  private int personThere(int person) {
    return now.hasPerson(person) ? 0 : NOBODY;
  }

  private static int within(int v, int least, int most) {
    if (v < least) {
      return BELOW;
    }
    return v > most ? ROOM : 0;
  }

  private static int known(int what, int most) {
    return what < 0 || what > most ? OTHER : 0;
  }

  private static int first(int fault, int next) {
    return fault != 0 ? fault : next;
  }

  private static int first(int fault, int next, int last) {
    return first(first(fault, next), last);
  }

  private static int nextSeed(int seed) {
    return seed * 1664525 + 1013904223;
  }

  private static int drawn(int seed, int below) {
    return (seed & WITHOUT_SIGN) / 256 % Math.max(1, below);
  }

  private static long power(int base, int exponent) {
    long product = 1;
    for (int i = 0; i < exponent; i++) {
      product *= base;
    }
    return product;
  }

  private static long ofFraction(long above, long below, int part) {
    long divisor = Math.max(1, commonDivisor(above, below));
    return (part == 0 ? above : below) / divisor;
  }

  private static long commonDivisor(long a, long b) {
    long greater = a;
    long lesser = b;
    // Two longs need fewer than a hundred steps.
    for (int step = 0; step < 100 && lesser != 0; step++) {
      long rest = greater % lesser;
      greater = lesser;
      lesser = rest;
    }
    return greater;
  }

  /** A KIND: what a spoon GAINS, d OFF its LABEL, e OFF what one LIKES. Others stand under it. */
  private static class Jam {
    Jam() {
    }

    int spoon(int figure, int d, int e) {
      return d == 0 ? 2 : -d;
    }
  }

  private static class Tin extends Jam {
    Tin() {
    }

    int spoon(int figure, int d, int e) {
      return 2 * super.spoon(figure, d, e);
    }
  }

  private static class Sweet extends Jam {
    Sweet() {
    }

    int spoon(int figure, int d, int e) {
      return super.spoon(figure, d, e) + figure / 4;
    }
  }

  private static final class Anvil extends Tin {
    Anvil() {
    }

    int spoon(int figure, int d, int e) {
      int asTin = super.spoon(figure, d, e);
      return d > 1 ? asTin - figure / 2 : asTin;
    }
  }

  private static final class Honey extends Sweet {
    Honey() {
    }

    int spoon(int figure, int d, int e) {
      return Math.max(0, super.spoon(figure, d, e));
    }
  }

  private static final class Bitter extends Jam {
    Bitter() {
    }

    int spoon(int figure, int d, int e) {
      return super.spoon(figure, d, e) - e;
    }
  }

  /** POTS, PEOPLE and the YEAR: as they are, as they are thought of, or as an IMAGE keeps them. */
  private static final class Village {
    final Jam[] kinds = {
      new Jam(), new Tin(), new Sweet(), new Anvil(), new Honey(), new Bitter()
    };
    final int[] kind = new int[MOST_POTS];
    final int[] figure = new int[MOST_POTS];
    final int[] holds = new int[MOST_POTS];
    final int[] label = new int[MOST_POTS];
    final int[] full = new int[MOST_POTS];
    final int[] owner = new int[MOST_POTS];
    final int[] likes = new int[MOST_PEOPLE];
    final int[] grace = new int[MOST_PEOPLE];
    int pots = 0;
    int people = 0;
    int year = 0;

    Village() {
    }

    void become(Village other) {
      System.arraycopy(other.kind, 0, kind, 0, MOST_POTS);
      System.arraycopy(other.figure, 0, figure, 0, MOST_POTS);
      System.arraycopy(other.holds, 0, holds, 0, MOST_POTS);
      System.arraycopy(other.label, 0, label, 0, MOST_POTS);
      System.arraycopy(other.full, 0, full, 0, MOST_POTS);
      System.arraycopy(other.owner, 0, owner, 0, MOST_POTS);
      System.arraycopy(other.likes, 0, likes, 0, MOST_PEOPLE);
      System.arraycopy(other.grace, 0, grace, 0, MOST_PEOPLE);
      pots = other.pots;
      people = other.people;
      year = other.year;
    }

    boolean hasPot(int pot) {
      return pot >= 0 && pot < pots;
    }

    boolean hasPerson(int person) {
      return person >= 0 && person < people;
    }

    static boolean isSort(int sort) {
      return sort >= 0 && sort < SORT_COUNT;
    }

    static boolean isLabel(int label) {
      return isSort(label) || label == NO_LABEL;
    }

    static boolean isKind(int kind) {
      return kind >= 0 && kind < KIND_COUNT;
    }

    static boolean isDigit(int v) {
      return v >= 0 && v <= MOST_DIGIT;
    }

    static int off(int sort, int other) {
      int apart = Math.abs(sort - other);
      return Math.min(apart, SORT_COUNT - apart);
    }

    int gained(int pot, int person) {
      int d = label[pot] == NO_LABEL ? 1 : off(holds[pot], label[pot]);
      int e = off(holds[pot], likes[person]);
      return kinds[kind[pot]].spoon(figure[pot], d, e);
    }

    boolean canOpen(int person, int pot) {
      return owner[pot] == person && full[pot] > 0;
    }

    int opened(int person) {
      int best = NONE;
      int least = SORT_COUNT;
      for (int pot = 0; pot < pots; pot++) {
        if (canOpen(person, pot)) {
          int apart = label[pot] == NO_LABEL ? 2 : off(label[pot], likes[person]);
          if (apart < least) {
            least = apart;
            best = pot;
          }
        }
      }
      return best;
    }

    void pass(int n) {
      // Nobody's POTS touch another's GRACE: it is the same one after another as YEAR by YEAR.
      for (int person = 0; person < people; person++) {
        passFor(person, n);
      }
      year += n;
    }

    void passFor(int person, int n) {
      for (int i = 0; i < n; i++) {
        int pot = opened(person);
        int more = -1;
        if (pot != NONE) {
          more = gained(pot, person);
          full[pot]--;
        }
        grace[person] = Math.max(0, Math.min(MOST_GRACE, grace[person] + more));
      }
    }

    void labelsOneOn() {
      for (int pot = 0; pot < pots; pot++) {
        if (label[pot] != NO_LABEL) {
          label[pot] = (label[pot] + 1) % SORT_COUNT;
        }
      }
    }

    int allGrace() {
      int together = 0;
      for (int person = 0; person < people; person++) {
        together += grace[person];
      }
      return together;
    }

    int withoutGrace() {
      int without = 0;
      for (int person = 0; person < people; person++) {
        if (grace[person] == 0) {
          without++;
        }
      }
      return without;
    }

    int spoons() {
      int together = 0;
      for (int pot = 0; pot < pots; pot++) {
        together += full[pot];
      }
      return together;
    }

    int potsOf(int person) {
      int bits = 0;
      for (int pot = 0; pot < pots; pot++) {
        if (owner[pot] == person) {
          bits |= 1 << pot;
        }
      }
      return bits;
    }

    int honestPots() {
      int bits = 0;
      for (int pot = 0; pot < pots; pot++) {
        if (label[pot] == holds[pot]) {
          bits |= 1 << pot;
        }
      }
      return bits;
    }

    int hopefulPots() {
      int bits = 0;
      for (int pot = 0; pot < pots; pot++) {
        if (label[pot] == likes[owner[pot]]) {
          bits |= 1 << pot;
        }
      }
      return bits;
    }

    int sortsHeld() {
      int bits = 0;
      for (int pot = 0; pot < pots; pot++) {
        if (full[pot] > 0) {
          bits |= 1 << holds[pot];
        }
      }
      return bits;
    }

    int sortsOnLabels() {
      int bits = 0;
      for (int pot = 0; pot < pots; pot++) {
        if (label[pot] != NO_LABEL) {
          bits |= 1 << label[pot];
        }
      }
      return bits;
    }

    int mostHeld() {
      int best = 0;
      for (int sort = 1; sort < SORT_COUNT; sort++) {
        if (spoonsOf(sort) > spoonsOf(best)) {
          best = sort;
        }
      }
      return best;
    }

    int spoonsOf(int sort) {
      int together = 0;
      for (int pot = 0; pot < pots; pot++) {
        if (holds[pot] == sort) {
          together += full[pot];
        }
      }
      return together;
    }

    boolean addPerson(int sort) {
      if (people >= MOST_PEOPLE || !isSort(sort)) {
        return false;
      }
      likes[people] = sort;
      grace[people] = FIRST_GRACE;
      people++;
      return true;
    }

    boolean addPot(int ofKind, int ofFigure, int sort, int ofLabel, int spoons, int person) {
      boolean isRight = isKind(ofKind) && isDigit(ofFigure) && isSort(sort) && isLabel(ofLabel)
          && isDigit(spoons) && hasPerson(person);
      if (pots >= MOST_POTS || !isRight) {
        return false;
      }
      kind[pots] = ofKind;
      figure[pots] = ofFigure;
      holds[pots] = sort;
      label[pots] = ofLabel;
      full[pots] = spoons;
      owner[pots] = person;
      pots++;
      return true;
    }

    boolean setLabel(int pot, int to) {
      if (!hasPot(pot) || !isLabel(to)) {
        return false;
      }
      label[pot] = to;
      return true;
    }

    boolean setOwner(int pot, int person) {
      if (!hasPot(pot) || !hasPerson(person)) {
        return false;
      }
      owner[pot] = person;
      return true;
    }

    boolean setLikes(int person, int sort) {
      if (!hasPerson(person) || !isSort(sort)) {
        return false;
      }
      likes[person] = sort;
      return true;
    }

    boolean setFull(int pot, int spoons) {
      if (!hasPot(pot) || !isDigit(spoons)) {
        return false;
      }
      full[pot] = spoons;
      return true;
    }

    boolean canGoOn(int n) {
      return n >= 1 && n <= MOST_YEARS && year <= LAST_YEAR - n;
    }
  }

  /** The letters told so far, and what STATEMENTS they are. */
  private static final class Letters {
    final int[] letters = new int[MOST_LETTERS];
    int count = 0;

    Letters() {
    }

    void add(int c) {
      if (count < MOST_LETTERS) {
        letters[count] = c;
        count++;
      }
    }

    int letterAt(int at) {
      return at >= 0 && at < count ? letters[at] : 0;
    }

    int digitAt(int at) {
      return letterAt(at) - '0';
    }

    int kindAt(int at) {
      return KIND_LETTERS.indexOf((char) letterAt(at));
    }

    /** How long a STATEMENT with this first letter is, its ";" too; 0: there is none. */
    int lengthAt(int at) {
      switch (letterAt(at)) {
        case 'p':
          return 3;
        case 'j':
          return 8;
        case 'l':
        case 'g':
        case 'k':
        case 'f':
        case 'y':
          return 4;
        default:
          return 0;
      }
    }

    /** The place of the first letter with which no VILLAGE can go on; -1: it is whole. */
    int wrongPlace() {
      int at = 0;
      do {
        int length = lengthAt(at);
        if (length == 0) {
          return at;
        }
        for (int i = 1; i < length; i++) {
          if (!fits(at, i, length)) {
            return at + i;
          }
        }
        at += length;
      } while (at < count);
      return -1;
    }

    boolean fits(int at, int i, int length) {
      if (i == length - 1) {
        return letterAt(at + i) == ';';
      }
      if (i == 1 && letterAt(at) == 'j') {
        return kindAt(at + i) >= 0;
      }
      return Village.isDigit(digitAt(at + i));
    }

    /** Whether the STATEMENT is as it must be; if so, it comes. */
    boolean isObeyed(int at, Village village) {
      int a = digitAt(at + 1);
      int b = digitAt(at + 2);
      switch (letterAt(at)) {
        case 'p':
          return village.addPerson(a);
        case 'j':
          return village.addPot(kindAt(at + 1), b, digitAt(at + 3), digitAt(at + 4),
              digitAt(at + 5), digitAt(at + 6));
        case 'l':
          return village.setLabel(a, b);
        case 'g':
          return village.setOwner(a, b);
        case 'k':
          return village.setLikes(a, b);
        case 'f':
          return village.setFull(a, b);
        case 'y':
          // No method in between: the rules count how deep calls go.
          int n = 10 * a + b;
          boolean isRight = village.canGoOn(n);
          village.pass(isRight ? n : 0);
          return isRight;
        default:
          return false;
      }
    }
  }
}
