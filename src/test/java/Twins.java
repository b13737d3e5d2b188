import java.util.ArrayList;
import java.util.List;
import java.util.function.Supplier;
import java.util.function.ToLongFunction;

/**
 * Objects made alike, of which one is asked one call more. All that can be seen of them is then
 * held side by side: open state, the ROW, the letters and THE IMAGE.
 */
final class Twins {
  private final String name;
  private final Supplier<LabelsByAnotherHand> made;
  private final String restOfLetters;
  private final List<Long> untouched;
  private final long[] refusalsBefore;

  /** The letters told so far become a VILLAGE with the rest behind them. */
  Twins(String name, Supplier<LabelsByAnotherHand> made, String restOfLetters) {
    this.name = name;
    this.made = made;
    this.restOfLetters = restOfLetters;
    this.untouched = seen(made.get());
    this.refusalsBefore = refusals(made.get());
  }

  LabelsByAnotherHand one() {
    return made.get();
  }

  /** The call answers as due, one REFUSAL more is counted, and nothing else is other. */
  void refused(Check check, String call, ToLongFunction<LabelsByAnotherHand> of, int refusal,
      long due) {
    LabelsByAnotherHand x = made.get();
    String what = call + " (" + name + ")";
    check.due(what, of.applyAsLong(x), due);
    long[] counted = refusals(x);
    for (int r = 1; r <= 6; r++) {
      long more = r == -refusal ? 1 : 0;
      check.due(what + ", how many -" + r, counted[r - 1], refusalsBefore[r - 1] + more);
    }
    check.holds(what + " changes nothing", seen(x).equals(untouched));
  }

  /** The call is not refused: none more is counted. */
  long taken(Check check, String call, ToLongFunction<LabelsByAnotherHand> of) {
    LabelsByAnotherHand x = made.get();
    long answer = of.applyAsLong(x);
    long[] counted = refusals(x);
    for (int r = 1; r <= 6; r++) {
      check.due(call + " (" + name + "), how many -" + r, counted[r - 1], refusalsBefore[r - 1]);
    }
    return answer;
  }

  /** The call is not refused, and changes nothing at all. */
  void asked(Check check, String call, ToLongFunction<LabelsByAnotherHand> of, long due) {
    check.due(call + " (" + name + ")", taken(check, call, of), due);
    LabelsByAnotherHand x = made.get();
    of.applyAsLong(x);
    check.holds(call + " (" + name + ") changes nothing", seen(x).equals(untouched));
  }

  private static long[] refusals(LabelsByAnotherHand x) {
    long[] counted = new long[6];
    for (int what = 11; what <= 16; what++) {
      counted[what - 11] = x.count(what);
    }
    return counted;
  }

  /** What is hidden is seen by its effects, so that this uses the object up. */
  private List<Long> seen(LabelsByAnotherHand x) {
    List<Long> all = new ArrayList<>();
    addOpenState(x, all);
    int pots = x.count(0);
    for (int pot = 0; pot < pots; pot++) {
      all.add((long) x.whatIn(pot, 0));
      all.add((long) x.whatIn(pot, 1));
    }
    all.add((long) x.judge());
    all.add((long) Check.tell(x, restOfLetters));
    addOpenState(x, all);
    all.add((long) x.on());
    addOpenState(x, all);
    return all;
  }

  private static void addOpenState(LabelsByAnotherHand x, List<Long> all) {
    for (int what = 0; what <= 7; what++) {
      all.add((long) x.count(what));
    }
    int pots = x.count(0);
    int people = x.count(1);
    for (int pot = 0; pot < pots; pot++) {
      for (int what = 0; what <= 5; what++) {
        all.add((long) x.pot(pot, what));
      }
    }
    for (int person = 0; person < people; person++) {
      all.add((long) x.person(person, 0));
      all.add((long) x.person(person, 1));
    }
  }
}
