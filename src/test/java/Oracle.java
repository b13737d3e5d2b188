import java.util.ArrayList;
import java.util.List;

/**
 * The document read word by word, without any of the program's short cuts: all PEOPLE go through
 * every YEAR, every choice is tried. It shares no code with the program.
 */
final class Oracle {
  private static final class Pot {
    char kind;
    int figure;
    int holds;
    int label;
    int full;
    int owner;

    Pot copy() {
      Pot p = new Pot();
      p.kind = kind;
      p.figure = figure;
      p.holds = holds;
      p.label = label;
      p.full = full;
      p.owner = owner;
      return p;
    }
  }

  private static final class World {
    final List<Pot> pots = new ArrayList<>();
    final List<int[]> people = new ArrayList<>();
    int year;

    World copy() {
      World w = new World();
      for (Pot p : pots) {
        w.pots.add(p.copy());
      }
      for (int[] one : people) {
        w.people.add(one.clone());
      }
      w.year = year;
      return w;
    }

    int opens(int who) {
      int best = -9;
      int bestOff = 99;
      for (int i = 0; i < pots.size(); i++) {
        Pot p = pots.get(i);
        if (p.owner != who || p.full < 1) {
          continue;
        }
        int off = p.label == 6 ? 2 : off(p.label, people.get(who)[0]);
        if (off < bestOff) {
          best = i;
          bestOff = off;
        }
      }
      return best;
    }

    int spoon(int pot, int who) {
      Pot p = pots.get(pot);
      int d = p.label == 6 ? 1 : off(p.holds, p.label);
      int e = off(p.holds, people.get(who)[0]);
      int jam = d == 0 ? 2 : -d;
      switch (p.kind) {
        case 'j':
          return jam;
        case 't':
          return jam * 2;
        case 's':
          return jam + p.figure / 4;
        case 'a':
          return d > 1 ? jam * 2 - p.figure / 2 : jam * 2;
        case 'h':
          return jam + p.figure / 4 < 0 ? 0 : jam + p.figure / 4;
        case 'b':
          return jam - e;
        default:
          throw new IllegalStateException("kind " + p.kind);
      }
    }

    World after(int n) {
      World w = copy();
      for (int i = 0; i < n; i++) {
        w.goBy();
      }
      return w;
    }

    void goBy() {
      year++;
      for (int who = 0; who < people.size(); who++) {
        int pot = opens(who);
        int more = pot == -9 ? -1 : spoon(pot, who);
        if (pot != -9) {
          pots.get(pot).full--;
        }
        int[] one = people.get(who);
        one[1] += more;
        if (one[1] < 0) {
          one[1] = 0;
        }
        if (one[1] > 99) {
          one[1] = 99;
        }
      }
    }

    int all() {
      int sum = 0;
      for (int[] one : people) {
        sum += one[1];
      }
      return sum;
    }

    boolean anyAtNone() {
      for (int[] one : people) {
        if (one[1] == 0) {
          return true;
        }
      }
      return false;
    }
  }

  private static int off(int a, int b) {
    int[][] table = {
      {0, 1, 2, 3, 2, 1}, {1, 0, 1, 2, 3, 2}, {2, 1, 0, 1, 2, 3},
      {3, 2, 1, 0, 1, 2}, {2, 3, 2, 1, 0, 1}, {1, 2, 3, 2, 1, 0}
    };
    return table[a][b];
  }

  private World now = new World();
  private World kept = null;
  private String letters = "";
  private final List<Integer> row = new ArrayList<>();
  private final int[] refused = new int[7];

  private int no(int r) {
    refused[-r]++;
    return r;
  }

  private boolean noPot(int pot) {
    return pot < 0 || pot >= now.pots.size();
  }

  private boolean nobody(int person) {
    return person < 0 || person >= now.people.size();
  }

  int letter(int c) {
    if (c < 0) {
      return no(-4);
    }
    if (c > 255 || letters.length() == 96) {
      return no(-6);
    }
    letters += (char) c;
    return letters.length();
  }

  int village() {
    String text = letters;
    letters = "";
    String statement = "(p[0-9];|j[jtsahb][0-9]{5};|[lgkfy][0-9]{2};)";
    if (!text.matches(statement + "+")) {
      for (int end = 0; end <= text.length(); end++) {
        if (end == text.length() || !canGoOn(text.substring(0, end + 1), statement)) {
          return -1000 - end;
        }
      }
    }
    World w = now.copy();
    int at = 0;
    int told = 0;
    for (String one : text.split(";")) {
      if (!comes(w, one)) {
        return -2000 - at;
      }
      at += one.length() + 1;
      told++;
    }
    now = w;
    return told;
  }

  /** Whether some end makes a VILLAGE of it: one of these does if any does. */
  private static boolean canGoOn(String begun, String statement) {
    String[] ends = {
      "", ";", "0;", "00;", "000;", "0000;", "00000;", "j00000;"
    };
    for (String end : ends) {
      if ((begun + end).matches(statement + "+")) {
        return true;
      }
    }
    return false;
  }

  private static boolean comes(World w, String s) {
    int a = s.length() > 1 ? s.charAt(1) - '0' : 0;
    int b = s.length() > 2 ? s.charAt(2) - '0' : 0;
    boolean isPot = a >= 0 && a < w.pots.size();
    switch (s.charAt(0)) {
      case 'p':
        if (a > 5 || w.people.size() == 5) {
          return false;
        }
        w.people.add(new int[] {a, 20});
        return true;
      case 'j':
        Pot p = new Pot();
        p.kind = s.charAt(1);
        p.figure = b;
        p.holds = s.charAt(3) - '0';
        p.label = s.charAt(4) - '0';
        p.full = s.charAt(5) - '0';
        p.owner = s.charAt(6) - '0';
        w.pots.add(p);
        return p.holds <= 5 && p.label <= 6 && p.owner < w.people.size() && w.pots.size() <= 8;
      case 'l':
        if (!isPot || b > 6) {
          return false;
        }
        w.pots.get(a).label = b;
        return true;
      case 'g':
        if (!isPot || b >= w.people.size()) {
          return false;
        }
        w.pots.get(a).owner = b;
        return true;
      case 'k':
        if (a >= w.people.size() || b > 5) {
          return false;
        }
        w.people.get(a)[0] = b;
        return true;
      case 'f':
        if (!isPot) {
          return false;
        }
        w.pots.get(a).full = b;
        return true;
      default:
        int n = 10 * a + b;
        if (n < 1 || n > 60 || w.year + n > 999) {
          return false;
        }
        for (int i = 0; i < n; i++) {
          w.goBy();
        }
        return true;
    }
  }

  int pot(int pot, int what) {
    if (noPot(pot)) {
      return no(-1);
    }
    if (what < 0 || what > 5) {
      return no(-2);
    }
    Pot p = now.pots.get(pot);
    return new int[] {"jtsahb".indexOf(p.kind), p.figure, p.holds, p.label, p.full, p.owner}[what];
  }

  int person(int person, int what) {
    if (nobody(person)) {
      return no(-1);
    }
    if (what < 0 || what > 3) {
      return no(-2);
    }
    int bits = 0;
    for (int i = 0; i < now.pots.size(); i++) {
      bits += now.pots.get(i).owner == person ? 1 << i : 0;
    }
    int[] one = now.people.get(person);
    return new int[] {one[0], one[1], now.opens(person), bits}[what];
  }

  int gains(int pot, int person) {
    if (noPot(pot) || nobody(person)) {
      return 1000000000 - no(-1);
    }
    return now.spoon(pot, person);
  }

  int labels(int pot, int label) {
    if (noPot(pot) || label < 0 || label > 6) {
      return no(-1);
    }
    int was = now.pots.get(pot).label;
    now.pots.get(pot).label = label;
    return was;
  }

  int gives(int pot, int person) {
    if (noPot(pot) || nobody(person)) {
      return no(-1);
    }
    int was = now.pots.get(pot).owner;
    now.pots.get(pot).owner = person;
    return was;
  }

  int likes(int person, int sort) {
    if (nobody(person) || sort < 0 || sort > 5) {
      return no(-1);
    }
    int was = now.people.get(person)[0];
    now.people.get(person)[0] = sort;
    return was;
  }

  int fills(int pot, int v) {
    if (noPot(pot)) {
      return no(-1);
    }
    if (v < 0) {
      return no(-4);
    }
    if (v > 9) {
      return no(-6);
    }
    int was = now.pots.get(pot).full;
    now.pots.get(pot).full = v;
    return was;
  }

  int turn(int pot, int kind, int figure) {
    if (noPot(pot)) {
      return no(-1);
    }
    if (kind < 0 || kind > 5) {
      return no(-2);
    }
    if (figure < 0) {
      return no(-4);
    }
    if (figure > 9) {
      return no(-6);
    }
    Pot p = now.pots.get(pot);
    int was = "jtsahb".indexOf(p.kind) * 10 + p.figure;
    p.kind = "jtsahb".charAt(kind);
    p.figure = figure;
    return was;
  }

  int years(int n) {
    if (n < 1) {
      return no(-4);
    }
    if (n > 60 || now.year + n > 999) {
      return no(-6);
    }
    now = now.after(n);
    return now.all();
  }

  private int range(int n, int most) {
    return n < 0 ? no(-4) : n > most ? no(-6) : 0;
  }

  int personThen(int person, int n, int what) {
    if (nobody(person)) {
      return no(-1);
    }
    int r = range(n, 60);
    if (r != 0) {
      return r;
    }
    if (what != 0 && what != 1) {
      return no(-2);
    }
    World w = now.after(n);
    return what == 0 ? w.people.get(person)[1] : w.opens(person);
  }

  int fullThen(int pot, int n) {
    if (noPot(pot)) {
      return no(-1);
    }
    int r = range(n, 60);
    return r != 0 ? r : now.after(n).pots.get(pot).full;
  }

  int graceThen(int n) {
    int r = range(n, 60);
    return r != 0 ? r : now.after(n).all();
  }

  int graceless(int person) {
    if (person != -1 && nobody(person)) {
      return no(-1);
    }
    for (int n = 0; n <= 60; n++) {
      World w = now.after(n);
      for (int who = 0; who < w.people.size(); who++) {
        if (w.people.get(who)[1] == 0 && (person == -1 || person == who)) {
          return person == -1 ? who : n;
        }
      }
    }
    return -9;
  }

  int empties(int pot) {
    if (noPot(pot)) {
      return no(-1);
    }
    for (int n = 0; n <= 60; n++) {
      if (now.after(n).pots.get(pot).full == 0) {
        return n;
      }
    }
    return -9;
  }

  int label(int pot, int n) {
    if (noPot(pot)) {
      return no(-1);
    }
    int r = range(n, 30);
    if (r != 0) {
      return r;
    }
    int owner = now.pots.get(pot).owner;
    int[] grace = new int[7];
    for (int label = 0; label < 7; label++) {
      World w = now.copy();
      w.pots.get(pot).label = label;
      grace[label] = w.after(n).people.get(owner)[1];
    }
    return firstOfMost(grace);
  }

  private static int firstOfMost(int[] all) {
    int at = 0;
    for (int i = 0; i < all.length; i++) {
      at = all[i] > all[at] ? i : at;
    }
    return at;
  }

  int honest(int what) {
    if (what != 0 && what != 1) {
      return no(-2);
    }
    int bits = 0;
    for (int i = 0; i < now.pots.size(); i++) {
      Pot p = now.pots.get(i);
      int as = what == 0 ? p.holds : now.people.get(p.owner)[0];
      bits += p.label == as ? 1 << i : 0;
    }
    return bits;
  }

  int audit(int n, int what) {
    int r = range(n, 30);
    if (r != 0) {
      return 1000000000 - r;
    }
    if (what != 0 && what != 1) {
      return 1000000000 - no(-2);
    }
    World w = now.copy();
    for (Pot p : w.pots) {
      p.label = what == 0 ? p.holds : 6;
    }
    return w.after(n).all() - now.after(n).all();
  }

  int change(int n) {
    int r = range(n, 20);
    if (r != 0) {
      return r;
    }
    int most = now.after(n).all();
    int best = -9;
    for (int pair = 0; pair < 100; pair++) {
      int a = pair / 10;
      int b = pair % 10;
      if (a >= b || noPot(b) || now.pots.get(a).owner == now.pots.get(b).owner) {
        continue;
      }
      World w = now.copy();
      w.pots.get(a).owner = now.pots.get(b).owner;
      w.pots.get(b).owner = now.pots.get(a).owner;
      int all = w.after(n).all();
      if (all > most) {
        most = all;
        best = pair;
      }
    }
    return best;
  }

  int gift(int n) {
    int r = range(n, 20);
    if (r != 0) {
      return r;
    }
    int most = now.after(n).all();
    int best = -9;
    for (int pair = 0; pair < 100; pair++) {
      if (noPot(pair / 10) || nobody(pair % 10)) {
        continue;
      }
      World w = now.copy();
      w.pots.get(pair / 10).owner = pair % 10;
      int all = w.after(n).all();
      if (all > most) {
        most = all;
        best = pair;
      }
    }
    return best;
  }

  int deal(int i) {
    if (i < -1) {
      return 1000000000 - no(-4);
    }
    List<Integer> dealt = new ArrayList<>();
    for (int p = 0; p < now.pots.size(); p++) {
      if (now.pots.get(p).full >= 1 && dealt.size() < 5) {
        dealt.add(p);
      }
    }
    int ways = 1;
    for (int k = 0; k < dealt.size(); k++) {
      ways *= now.people.size();
    }
    int most = Integer.MIN_VALUE;
    int[] best = new int[dealt.size()];
    for (int way = 0; way < ways; way++) {
      int[] whose = new int[dealt.size()];
      int rest = way;
      for (int k = dealt.size() - 1; k >= 0; k--) {
        whose[k] = rest % now.people.size();
        rest /= now.people.size();
      }
      int sum = 0;
      for (int k = 0; k < dealt.size(); k++) {
        sum += now.spoon(dealt.get(k), whose[k]);
      }
      if (sum > most) {
        most = sum;
        best = whose;
      }
    }
    if (i == -1) {
      return most;
    }
    return i < best.length ? best[i] : -9;
  }

  int worst(int what) {
    if (what != 0 && what != 1) {
      return 1000000000 - no(-2);
    }
    int best = -9;
    for (int p = 0; p < now.pots.size(); p++) {
      if (now.pots.get(p).full >= 1
          && (best == -9 || now.spoon(p, now.pots.get(p).owner)
              < now.spoon(best, now.pots.get(best).owner))) {
        best = p;
      }
    }
    return what == 0 ? best : best == -9 ? 0 : now.spoon(best, now.pots.get(best).owner);
  }

  int trust(int person) {
    if (nobody(person)) {
      return no(-1);
    }
    int sum = 0;
    for (int p = 0; p < now.pots.size(); p++) {
      Pot one = now.pots.get(p);
      sum += one.owner == person && one.full >= 1 && now.spoon(p, person) >= 1 ? 1 : 0;
    }
    return sum;
  }

  int shelf(int person, int i) {
    if (nobody(person)) {
      return no(-1);
    }
    if (i < 0) {
      return no(-4);
    }
    List<Integer> his = new ArrayList<>();
    for (int p = 0; p < now.pots.size(); p++) {
      if (now.pots.get(p).owner == person) {
        his.add(p);
      }
    }
    his.sort((a, b) -> now.pots.get(a).label != now.pots.get(b).label
        ? now.pots.get(a).label - now.pots.get(b).label : a - b);
    return i < his.size() ? his.get(i) : -9;
  }

  int sorts(int what) {
    if (what < 0 || what > 2) {
      return no(-2);
    }
    int[] spoons = new int[6];
    int held = 0;
    int onLabels = 0;
    for (Pot p : now.pots) {
      spoons[p.holds] += p.full;
      held |= p.full > 0 ? 1 << p.holds : 0;
      onLabels |= p.label < 6 ? 1 << p.label : 0;
    }
    return new int[] {held, firstOfMost(spoons), onLabels - (onLabels & held)}[what];
  }

  int fewest(int n) {
    int r = range(n, 20);
    if (r != 0) {
      return r;
    }
    for (int size = 0; size <= now.pots.size(); size++) {
      for (int bits = 0; bits < 1 << now.pots.size(); bits++) {
        if (Integer.bitCount(bits) == size && nobodyFallsWith(bits, n)) {
          return bits;
        }
      }
    }
    return -9;
  }

  private boolean nobodyFallsWith(int bits, int n) {
    World w = now.copy();
    for (int p = 0; p < w.pots.size(); p++) {
      if ((bits & 1 << p) != 0) {
        w.pots.get(p).label = w.pots.get(p).holds;
      }
    }
    if (w.anyAtNone()) {
      return false;
    }
    for (int i = 0; i < n; i++) {
      w.goBy();
      if (w.anyAtNone()) {
        return false;
      }
    }
    return true;
  }

  int warn(int person, int n) {
    if (nobody(person)) {
      return no(-1);
    }
    int r = range(n, 30);
    if (r != 0) {
      return r;
    }
    int most = now.after(n).people.get(person)[1];
    int best = -9;
    for (int p = 0; p < now.pots.size(); p++) {
      World w = now.copy();
      w.pots.get(p).full = 0;
      int grace = w.after(n).people.get(person)[1];
      if (now.pots.get(p).owner == person && grace > most) {
        most = grace;
        best = p;
      }
    }
    return best;
  }

  int heir(int pot, int n) {
    if (noPot(pot)) {
      return no(-1);
    }
    int r = range(n, 30);
    if (r != 0) {
      return r;
    }
    int[] all = new int[now.people.size()];
    for (int who = 0; who < all.length; who++) {
      World w = now.copy();
      w.pots.get(pot).owner = who;
      all[who] = w.after(n).all();
    }
    return firstOfMost(all);
  }

  int two(int a, int b, int n) {
    if (noPot(a) || noPot(b) || a == b) {
      return no(-1);
    }
    int r = range(n, 30);
    if (r != 0) {
      return r;
    }
    Pot p = now.pots.get(a);
    Pot q = now.pots.get(b);
    if (p.full == 0 || q.full == 0 || p.owner == q.owner) {
      return no(-3);
    }
    int[][] lead = new int[2][2];
    for (int x = 0; x < 2; x++) {
      for (int y = 0; y < 2; y++) {
        World w = now.copy();
        w.pots.get(a).full *= 1 - x;
        w.pots.get(b).full *= 1 - y;
        World then = w.after(n);
        lead[x][y] = then.people.get(p.owner)[1] - then.people.get(q.owner)[1];
      }
    }
    for (int x = 0; x < 2; x++) {
      for (int y = 0; y < 2; y++) {
        if (lead[1 - x][y] <= lead[x][y] && -lead[x][1 - y] <= -lead[x][y]) {
          return 10 * x + y;
        }
      }
    }
    return -9;
  }

  long errs(int person, int n, int t, int v, int part) {
    if (nobody(person)) {
      return 4000000000000000000L - no(-1);
    }
    if (n < 0 || v < 0 || t < 2) {
      return 4000000000000000000L - no(-4);
    }
    if (n > 7 || t > 20 || v > 99) {
      return 4000000000000000000L - no(-6);
    }
    if (part != 0 && part != 1) {
      return 4000000000000000000L - no(-2);
    }
    long below = 1;
    for (int i = 0; i < n; i++) {
      below *= t;
    }
    return fraction(ways(now, person, n, t, v), below, part);
  }

  private static long ways(World w, int person, int n, int t, int v) {
    if (n == 0) {
      return w.people.get(person)[1] >= v ? 1 : 0;
    }
    World erred = w.copy();
    for (Pot p : erred.pots) {
      p.label = p.label == 6 ? 6 : p.label == 5 ? 0 : p.label + 1;
    }
    return ways(erred.after(1), person, n - 1, t, v)
        + (t - 1) * ways(w.after(1), person, n - 1, t, v);
  }

  private static long fraction(long above, long below, int part) {
    long g = java.math.BigInteger.valueOf(above).gcd(java.math.BigInteger.valueOf(below))
        .longValue();
    return (part == 0 ? above : below) / g;
  }

  long mean(int part) {
    if (part != 0 && part != 1) {
      return 4000000000000000000L - no(-2);
    }
    if (now.people.isEmpty()) {
      return part;
    }
    return fraction(now.all(), now.people.size(), part);
  }

  int whatIn(int pot, int what) {
    if (noPot(pot)) {
      return no(-1);
    }
    if (what != 0 && what != 1) {
      return no(-2);
    }
    int bits = 0;
    for (int i = 0; i < 6; i++) {
      World w = now.copy();
      Pot p = w.pots.get(pot);
      if (what == 0) {
        p.holds = i;
      } else {
        p.kind = "jtsahb".charAt(i);
      }
      boolean isSo = true;
      for (int n = 0; n < row.size(); n++) {
        isSo &= w.after(n).people.get(p.owner)[1] == row.get(n);
      }
      bits += isSo ? 1 << i : 0;
    }
    return bits;
  }

  int row(int v) {
    if (v < 0) {
      return no(-4);
    }
    if (v > 99 || row.size() == 16) {
      return no(-6);
    }
    row.add(v);
    return row.size();
  }

  int judge() {
    int answer = -9;
    for (int i = row.size() - 1; i >= 0; i--) {
      if (noPot(i) || now.pots.get(i).label != row.get(i)) {
        answer = i;
      }
    }
    row.clear();
    return answer;
  }

  int clear() {
    int had = row.size();
    row.clear();
    return had;
  }

  int lots(int n, int z, int what) {
    if (n < 1) {
      return no(-4);
    }
    if (n > 20) {
      return no(-6);
    }
    if (what != 0 && what != 1) {
      return no(-2);
    }
    int[] seed = {z};
    int sum = 0;
    int atNone = 0;
    for (int i = 0; i < n; i++) {
      World w = now.copy();
      for (Pot p : w.pots) {
        p.label = draw(seed, 7);
        p.full = draw(seed, 10);
      }
      w = w.after(6);
      sum += w.all();
      for (int[] one : w.people) {
        atNone += one[1] == 0 ? 1 : 0;
      }
    }
    return what == 0 ? sum : atNone;
  }

  private static int draw(int[] seed, int m) {
    seed[0] = (int) (seed[0] * 1664525L + 1013904223L);
    long unsigned = seed[0] < 0 ? seed[0] + 2147483648L : seed[0];
    return (int) (unsigned / 256 % m);
  }

  int image() {
    kept = now.copy();
    return now.year;
  }

  int on() {
    if (kept == null) {
      return no(-3);
    }
    now = kept.copy();
    return now.year;
  }

  int count(int what) {
    switch (what) {
      case 0:
        return now.pots.size();
      case 1:
        return now.people.size();
      case 2:
        return now.year;
      case 3:
        return now.all();
      case 4:
        return now.pots.stream().mapToInt(p -> p.full).sum();
      case 5:
        return (int) now.pots.stream().filter(p -> p.label == p.holds).count();
      case 6:
        return row.size();
      case 7:
        return letters.length();
      default:
        return what >= 11 && what <= 16 ? refused[what - 10] : -9;
    }
  }
}
