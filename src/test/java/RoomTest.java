import java.lang.management.ManagementFactory;

/**
 * All calls of one run live in one room: an object makes its rows once and its calls make nothing.
 * It holds the dearest state, with all POTS and all of the PEOPLE.
 */
public final class RoomTest {
  private static final Check CHECK = new Check("RoomTest");
  private static final int CALLS = 512;
  private static final long BYTES_AN_OBJECT = 8192;

  public static void main(String[] args) {
    com.sun.management.ThreadMXBean bytes =
        (com.sun.management.ThreadMXBean) ManagementFactory.getThreadMXBean();
    // Once ahead of it: what the machine itself makes at first use does not count.
    everyCall(dearest());
    bytes.getCurrentThreadAllocatedBytes();
    bytes.getCurrentThreadAllocatedBytes();

    long before = bytes.getCurrentThreadAllocatedBytes();
    LabelsByAnotherHand x = dearest();
    long made = bytes.getCurrentThreadAllocatedBytes();
    CHECK.holds("an object is small: " + (made - before), made - before < BYTES_AN_OBJECT);

    before = bytes.getCurrentThreadAllocatedBytes();
    long sum = 0;
    for (int i = 0; i < CALLS / 40 + 1; i++) {
      sum += everyCall(x);
    }
    long after = bytes.getCurrentThreadAllocatedBytes();
    CHECK.holds("calls make nothing: " + (after - before), after - before < BYTES_AN_OBJECT);
    CHECK.holds("they answered", sum != 0);
    CHECK.end();
  }

  private static LabelsByAnotherHand dearest() {
    return Check.of("p0;p1;p2;p3;p4;ja93090;ja94090;ja92090;ja93190;ja91090;ja95090;ja90390;"
        + "ja92590;");
  }

  private static long everyCall(LabelsByAnotherHand x) {
    long sum = x.letter('p') + x.letter('0') + x.letter(';') + x.village();
    sum += x.pot(7, 3) + x.person(0, 2) + x.gains(7, 4) + x.labels(0, 0) + x.gives(0, 0);
    sum += x.likes(0, 0) + x.fills(0, 9) + x.turn(0, 3, 9) + x.personThen(0, 60, 1);
    sum += x.fullThen(7, 60) + x.graceThen(60) + x.graceless(0) + x.graceless(-1) + x.empties(7);
    sum += x.label(7, 30) + x.honest(0) + x.audit(30, 0) + x.change(20) + x.gift(20) + x.deal(4);
    sum += x.worst(0) + x.trust(0) + x.shelf(0, 7) + x.sorts(2) + x.fewest(20) + x.warn(0, 30);
    sum += x.heir(7, 30) + x.two(0, 1, 30) + x.errs(0, 7, 20, 1, 0) + x.mean(0) + x.row(20);
    sum += x.whatIn(0, 0) + x.judge() + x.clear() + x.lots(20, 1, 0) + x.image() + x.years(1);
    return sum + x.on() + x.count(3);
  }
}
