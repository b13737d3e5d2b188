import java.lang.reflect.Method;
import java.util.ArrayList;
import java.util.Arrays;
import java.util.List;
import java.util.function.Predicate;

/**
 * Every call with every number at its bounds and beyond them, all of these with all others, in a
 * village with nothing, in one with some and in one that is full: which REFUSAL it is by the order
 * that the promise tells, and that nothing changes by it but how many there were.
 */
public final class RefusalsTest {
  private static final Check CHECK = new Check("RefusalsTest");
  private static final int NEAR = 0;
  private static final int FAR = 1;
  private static final int FARTHEST = 2;

  /** A call, the numbers that it is asked with, and its REFUSALS in the order of its promise. */
  private static final class Call {
    final String name;
    final int told;
    final int[][] numbers;
    final List<Integer> refusals = new ArrayList<>();
    final List<Predicate<int[]>> fits = new ArrayList<>();

    Call(String name, int told, int[]... numbers) {
      this.name = name;
      this.told = told;
      this.numbers = numbers;
    }

    Call no(int refusal, Predicate<int[]> when) {
      refusals.add(refusal);
      fits.add(when);
      return this;
    }

    /** -1 or -2: the i-th number is not one of least .. greatest. */
    Call notOf(int refusal, int i, int least, int greatest) {
      return no(refusal, a -> a[i] < least || a[i] > greatest);
    }

    Call below(int i, int least) {
      return no(-4, a -> a[i] < least);
    }

    Call above(int i, int greatest) {
      return no(-6, a -> a[i] > greatest);
    }

    int refusal(int[] a) {
      for (int i = 0; i < fits.size(); i++) {
        if (fits.get(i).test(a)) {
          return refusals.get(i);
        }
      }
      return 0;
    }

    long due(int refusal) {
      switch (told) {
        case NEAR:
          return refusal;
        case FAR:
          return 1000000000 - refusal;
        default:
          return 4000000000000000000L - refusal;
      }
    }
  }

  private final Twins twins;
  private final int pots;
  private final int people;
  private final int[] potNumbers;
  private final int[] personNumbers;

  private RefusalsTest(Twins twins) {
    this.twins = twins;
    this.pots = twins.one().count(0);
    this.people = twins.one().count(1);
    this.potNumbers = bounds(0, pots - 1);
    this.personNumbers = bounds(0, people - 1);
  }

  public static void main(String[] args) throws ReflectiveOperationException {
    for (Twins twins : new Twins[] {Villages.bare(), Villages.some(), Villages.full()}) {
      RefusalsTest test = new RefusalsTest(twins);
      test.ofNow();
      test.ofThought();
      test.ofTwo();
      test.ofErrs();
      test.ofRest();
      test.unrefused();
    }
    CHECK.end();
  }

  /** The least and the greatest, the first beyond at either end, the farthest, one in between. */
  private static int[] bounds(int least, int greatest) {
    return new int[] {
      Integer.MIN_VALUE, least - 1, least, (least + greatest) / 2, greatest, greatest + 1,
      Integer.MAX_VALUE
    };
  }

  private void ofNow() throws ReflectiveOperationException {
    hold(new Call("letter", NEAR, bounds(0, 255)).below(0, 0).above(0, 255)
        .no(-6, a -> twins.one().count(7) == 96));
    hold(new Call("pot", NEAR, potNumbers, bounds(0, 5))
        .notOf(-1, 0, 0, pots - 1).notOf(-2, 1, 0, 5));
    hold(new Call("person", NEAR, personNumbers, bounds(0, 3))
        .notOf(-1, 0, 0, people - 1).notOf(-2, 1, 0, 3));
    hold(new Call("gains", FAR, potNumbers, personNumbers)
        .notOf(-1, 0, 0, pots - 1).notOf(-1, 1, 0, people - 1));
    hold(new Call("labels", NEAR, potNumbers, bounds(0, 6))
        .notOf(-1, 0, 0, pots - 1).notOf(-1, 1, 0, 6));
    hold(new Call("gives", NEAR, potNumbers, personNumbers)
        .notOf(-1, 0, 0, pots - 1).notOf(-1, 1, 0, people - 1));
    hold(new Call("likes", NEAR, personNumbers, bounds(0, 5))
        .notOf(-1, 0, 0, people - 1).notOf(-1, 1, 0, 5));
    hold(new Call("fills", NEAR, potNumbers, bounds(0, 9))
        .notOf(-1, 0, 0, pots - 1).below(1, 0).above(1, 9));
    hold(new Call("turn", NEAR, potNumbers, bounds(0, 5), bounds(0, 9))
        .notOf(-1, 0, 0, pots - 1).notOf(-2, 1, 0, 5).below(2, 0).above(2, 9));
    hold(new Call("years", NEAR, bounds(1, 60)).below(0, 1).above(0, 60)
        .no(-6, a -> twins.one().count(2) + a[0] > 999));
    hold(new Call("honest", NEAR, bounds(0, 1)).notOf(-2, 0, 0, 1));
    hold(new Call("deal", FAR, bounds(-1, 4)).below(0, -1));
    hold(new Call("worst", FAR, bounds(0, 1)).notOf(-2, 0, 0, 1));
    hold(new Call("trust", NEAR, personNumbers).notOf(-1, 0, 0, people - 1));
    hold(new Call("shelf", NEAR, personNumbers, bounds(0, 7))
        .notOf(-1, 0, 0, people - 1).below(1, 0));
    hold(new Call("sorts", NEAR, bounds(0, 2)).notOf(-2, 0, 0, 2));
    hold(new Call("mean", FARTHEST, bounds(0, 1)).notOf(-2, 0, 0, 1));
  }

  private void ofThought() throws ReflectiveOperationException {
    hold(new Call("personThen", NEAR, personNumbers, bounds(0, 60), bounds(0, 1))
        .notOf(-1, 0, 0, people - 1).below(1, 0).above(1, 60).notOf(-2, 2, 0, 1));
    hold(new Call("fullThen", NEAR, potNumbers, bounds(0, 60))
        .notOf(-1, 0, 0, pots - 1).below(1, 0).above(1, 60));
    hold(new Call("graceThen", NEAR, bounds(0, 60)).below(0, 0).above(0, 60));
    hold(new Call("graceless", NEAR, bounds(-1, people - 1)).notOf(-1, 0, -1, people - 1));
    hold(new Call("empties", NEAR, potNumbers).notOf(-1, 0, 0, pots - 1));
    hold(new Call("label", NEAR, potNumbers, bounds(0, 30))
        .notOf(-1, 0, 0, pots - 1).below(1, 0).above(1, 30));
    hold(new Call("audit", FAR, bounds(0, 30), bounds(0, 1))
        .below(0, 0).above(0, 30).notOf(-2, 1, 0, 1));
    hold(new Call("change", NEAR, bounds(0, 20)).below(0, 0).above(0, 20));
    hold(new Call("gift", NEAR, bounds(0, 20)).below(0, 0).above(0, 20));
    hold(new Call("fewest", NEAR, bounds(0, 20)).below(0, 0).above(0, 20));
    hold(new Call("warn", NEAR, personNumbers, bounds(0, 30))
        .notOf(-1, 0, 0, people - 1).below(1, 0).above(1, 30));
    hold(new Call("heir", NEAR, potNumbers, bounds(0, 30))
        .notOf(-1, 0, 0, pots - 1).below(1, 0).above(1, 30));
  }

  private void ofTwo() throws ReflectiveOperationException {
    int[] every = new int[pots + 4];
    for (int i = 0; i < pots + 2; i++) {
      every[i] = i - 1;
    }
    every[pots + 2] = Integer.MIN_VALUE;
    every[pots + 3] = Integer.MAX_VALUE;
    LabelsByAnotherHand x = twins.one();
    hold(new Call("two", NEAR, every, every, bounds(0, 30))
        .notOf(-1, 0, 0, pots - 1).notOf(-1, 1, 0, pots - 1).no(-1, a -> a[0] == a[1])
        .below(2, 0).above(2, 30)
        .no(-3, a -> x.pot(a[0], 4) == 0 || x.pot(a[1], 4) == 0)
        .no(-3, a -> x.pot(a[0], 5) == x.pot(a[1], 5)));
  }

  private void ofErrs() throws ReflectiveOperationException {
    int[] n = {-1, 0, 7, 8};
    int[] t = {1, 2, 20, 21};
    int[] v = {-1, 0, 99, 100};
    int[] part = {-1, 0, 1, 2};
    hold(errs(new int[] {-1, 0, people - 1, people}, n, t, v, part));
    int[] one = {0};
    int[] two = {2};
    hold(errs(personNumbers, one, two, one, one));
    hold(errs(one, bounds(0, 7), two, one, one));
    hold(errs(one, one, bounds(2, 20), one, one));
    hold(errs(one, one, two, bounds(0, 99), one));
    hold(errs(one, one, two, one, bounds(0, 1)));
  }

  private Call errs(int[] person, int[] n, int[] t, int[] v, int[] part) {
    return new Call("errs", FARTHEST, person, n, t, v, part).notOf(-1, 0, 0, people - 1)
        .below(1, 0).below(3, 0).below(2, 2)
        .above(1, 7).above(2, 20).above(3, 99)
        .notOf(-2, 4, 0, 1);
  }

  private void ofRest() throws ReflectiveOperationException {
    hold(new Call("whatIn", NEAR, potNumbers, bounds(0, 1))
        .notOf(-1, 0, 0, pots - 1).notOf(-2, 1, 0, 1));
    hold(new Call("row", NEAR, bounds(0, 99)).below(0, 0).above(0, 99)
        .no(-6, a -> twins.one().count(6) == 16));
    hold(new Call("lots", NEAR, bounds(1, 20), bounds(-1, 0), bounds(0, 1))
        .below(0, 1).above(0, 20).notOf(-2, 2, 0, 1));
    // Only the bare one has no IMAGE.
    hold(new Call("on", NEAR).no(-3, a -> pots == 0));
  }

  /** Calls that are never refused. */
  private void unrefused() throws ReflectiveOperationException {
    for (String name : new String[] {"village", "judge", "clear", "image"}) {
      hold(new Call(name, NEAR));
    }
    hold(new Call("count", NEAR, bounds(0, 7)));
    hold(new Call("count", NEAR, bounds(11, 16)));
  }

  /** Every number with every other. */
  private void hold(Call call) throws ReflectiveOperationException {
    int ways = 1;
    for (int[] numbers : call.numbers) {
      ways *= numbers.length;
    }
    for (int way = 0; way < ways; way++) {
      int[] numbers = new int[call.numbers.length];
      int rest = way;
      for (int i = 0; i < numbers.length; i++) {
        numbers[i] = call.numbers[i][rest % call.numbers[i].length];
        rest /= call.numbers[i].length;
      }
      hold(call, numbers);
    }
  }

  private void hold(Call call, int[] numbers) throws ReflectiveOperationException {
    Class<?>[] types = new Class<?>[numbers.length];
    Arrays.fill(types, int.class);
    Method method = LabelsByAnotherHand.class.getMethod(call.name, types);
    Object[] boxed = Arrays.stream(numbers).boxed().toArray();
    String what = call.name + Arrays.toString(numbers);
    int refusal = call.refusal(numbers);
    if (refusal != 0) {
      twins.refused(CHECK, what, x -> answer(method, x, boxed), refusal, call.due(refusal));
      return;
    }
    long answer = twins.taken(CHECK, what, x -> answer(method, x, boxed));
    for (int r = -6; r < 0; r++) {
      CHECK.holds(what + " is taken: " + answer, answer != call.due(r));
    }
  }

  private static long answer(Method method, LabelsByAnotherHand x, Object[] numbers) {
    try {
      return ((Number) method.invoke(x, numbers)).longValue();
    } catch (ReflectiveOperationException thrown) {
      throw new IllegalStateException(method + Arrays.toString(numbers), thrown);
    }
  }
}
