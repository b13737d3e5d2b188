import java.lang.reflect.Method;
import java.util.Random;

/** Long runs by lot: every answer is held against the Oracle's. */
public final class OracleTest {
  private static final int RUNS = 600;
  private static final int CALLS = 512;
  private static final Check CHECK = new Check("OracleTest");

  /** A call, how often it comes, and up to where each number goes (from -1; -2 at times). */
  private static final Object[][] CALLS_BY_LOT = {
    {"letter", 1, 256}, {"village", 1}, {"pot", 3, 8, 6}, {"person", 3, 5, 4}, {"gains", 3, 8, 5},
    {"labels", 8, 8, 7}, {"gives", 5, 8, 5}, {"likes", 3, 5, 6}, {"fills", 12, 8, 10},
    {"turn", 5, 8, 6, 10}, {"years", 1, 8}, {"personThen", 3, 5, 61, 2}, {"fullThen", 3, 8, 61},
    {"graceThen", 2, 61}, {"graceless", 3, 5}, {"empties", 3, 8}, {"label", 4, 8, 31},
    {"honest", 2, 2}, {"audit", 3, 31, 2}, {"change", 3, 21}, {"gift", 3, 21}, {"deal", 4, 6},
    {"worst", 2, 2}, {"trust", 2, 5}, {"shelf", 3, 5, 8}, {"sorts", 3, 3}, {"fewest", 4, 21},
    {"warn", 4, 5, 31}, {"heir", 4, 8, 31}, {"two", 6, 8, 8, 31}, {"errs", 3, 5, 8, 21, 60, 2},
    {"mean", 2, 2}, {"whatIn", 6, 8, 2}, {"row", 2, 100}, {"judge", 1}, {"clear", 1},
    {"lots", 2, 21, 1 << 30, 2}, {"image", 1}, {"on", 1}, {"count", 4, 17}
  };

  private final Random lot;
  private final int run;
  private final LabelsByAnotherHand program = new LabelsByAnotherHand();
  private final Oracle oracle = new Oracle();
  private int calls = 0;

  private OracleTest(int run) {
    this.run = run;
    this.lot = new Random(run);
  }

  public static void main(String[] args) throws ReflectiveOperationException {
    for (int run = 0; run < RUNS; run++) {
      new OracleTest(run).go();
    }
    CHECK.end();
  }

  private void go() throws ReflectiveOperationException {
    if (lot.nextInt(5) > 0) {
      tell(villageByLot());
    }
    while (calls < CALLS) {
      int kind = lot.nextInt(40);
      if (kind == 0) {
        tell(lot.nextInt(3) > 0 ? statementsByLot() : spoilt(statementsByLot()));
      } else if (kind == 1) {
        tellRow();
      } else {
        callByLot();
      }
    }
  }

  private void callByLot() throws ReflectiveOperationException {
    int weight = 0;
    for (Object[] call : CALLS_BY_LOT) {
      weight += (Integer) call[1];
    }
    int at = lot.nextInt(weight);
    int i = 0;
    while (at >= (Integer) CALLS_BY_LOT[i][1]) {
      at -= (Integer) CALLS_BY_LOT[i][1];
      i++;
    }
    Object[] call = CALLS_BY_LOT[i];
    Object[] numbers = new Object[call.length - 2];
    for (int k = 0; k < numbers.length; k++) {
      numbers[k] = numberByLot((Integer) call[k + 2]);
    }
    compare((String) call[0], numbers);
  }

  private int numberByLot(int most) {
    switch (lot.nextInt(60)) {
      case 0:
        return -1 - lot.nextInt(2);
      case 1:
        return lot.nextInt();
      case 2:
        return most;
      default:
        return lot.nextInt(most);
    }
  }

  private void tellRow() throws ReflectiveOperationException {
    compare("clear");
    if (oracle.count(1) == 0) {
      return;
    }
    int howMany = 1 + lot.nextInt(8);
    int person = lot.nextInt(oracle.count(1));
    boolean isOfLabels = lot.nextBoolean();
    for (int i = 0; i < howMany; i++) {
      int v = isOfLabels ? Math.max(0, oracle.count(0) > i ? oracle.pot(i, 3) : 0)
          : oracle.personThen(person, i, 0);
      compare("row", lot.nextInt(30) == 0 ? lot.nextInt(20) : v);
    }
    if (isOfLabels) {
      compare("judge");
    }
  }

  private void tell(String letters) throws ReflectiveOperationException {
    for (int i = 0; i < letters.length() && i < 96; i++) {
      compare("letter", (int) letters.charAt(i));
    }
    compare("village");
  }

  private String villageByLot() {
    StringBuilder text = new StringBuilder();
    int people = 1 + lot.nextInt(5);
    for (int i = 0; i < people; i++) {
      text.append('p').append(lot.nextInt(6)).append(';');
    }
    int pots = lot.nextInt(9);
    for (int i = 0; i < pots; i++) {
      text.append(potByLot(people));
    }
    return text.toString();
  }

  private String potByLot(int people) {
    int holds = lot.nextInt(6);
    return "j" + "jtsahb".charAt(lot.nextInt(6)) + lot.nextInt(10) + holds
        + (lot.nextInt(3) == 0 ? holds : lot.nextInt(7)) + lot.nextInt(10) + lot.nextInt(people)
        + ";";
  }

  private String statementsByLot() {
    StringBuilder text = new StringBuilder();
    int statements = 1 + lot.nextInt(4);
    for (int i = 0; i < statements; i++) {
      switch (lot.nextInt(8)) {
        case 0:
          text.append('p').append(lot.nextInt(7)).append(';');
          break;
        case 1:
          text.append(potByLot(5));
          break;
        case 2:
          text.append("y0").append(lot.nextInt(6)).append(';');
          break;
        case 3:
          text.append('y').append(lot.nextInt(7)).append(lot.nextInt(10)).append(';');
          break;
        default:
          text.append("lgkf".charAt(lot.nextInt(4))).append(lot.nextInt(8))
              .append(lot.nextInt(8)).append(';');
      }
    }
    return text.toString();
  }

  private String spoilt(String text) {
    StringBuilder other = new StringBuilder(text);
    int at = lot.nextInt(text.length());
    switch (lot.nextInt(3)) {
      case 0:
        other.deleteCharAt(at);
        break;
      case 1:
        other.setLength(at);
        break;
      default:
        other.setCharAt(at, "jtsahbplgkfy;0569:/\u00ff".charAt(lot.nextInt(20)));
    }
    return other.toString();
  }

  private void compare(String name, Object... numbers) throws ReflectiveOperationException {
    Class<?>[] types = new Class<?>[numbers.length];
    java.util.Arrays.fill(types, int.class);
    Method of = LabelsByAnotherHand.class.getMethod(name, types);
    Method by = Oracle.class.getDeclaredMethod(name, types);
    long got = ((Number) of.invoke(program, numbers)).longValue();
    long want = ((Number) by.invoke(oracle, numbers)).longValue();
    calls++;
    CHECK.due("run " + run + ", call " + calls + ": " + name + java.util.Arrays.toString(numbers),
        got, want);
  }
}
