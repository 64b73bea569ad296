import java.util.ArrayList;
import java.util.List;

/** A ServoNet with what the tests do again and again, and the count of wrong answers. */
final class Rig {
  static final long NO_ANSWER = 0x7777777777777777L;
  static final int PRE = 127;
  static final int OPERATIONAL = 5;
  static final int STOPPED = 4;

  private static int checks = 0;
  private static int wrong = 0;

  final ServoNet net;

  Rig(int rate) {
    net = new ServoNet(rate);
  }

  /** A rig with RATE 8 whose first drives have power and have sent their BOOT frames. */
  static Rig withDrives(int drives) {
    Rig rig = new Rig(8);
    for (int k = 0; k < drives; k++) {
      rig.net.power(k, true);
    }
    rig.net.tick(1);
    return rig;
  }

  static void same(String what, long got, long want) {
    checks++;
    if (got != want) {
      wrong++;
      System.out.println(what + " answered " + got + " (0x" + Long.toHexString(got) + "), due is " + want
          + " (0x" + Long.toHexString(want) + ")");
    }
  }

  static void isTrue(String what, boolean got) {
    same(what, got ? 1 : 0, 1);
  }

  static void throwing(String what, Class<? extends RuntimeException> due, Runnable call) {
    checks++;
    Class<?> got = null;
    try {
      call.run();
    } catch (RuntimeException e) {
      got = e.getClass();
    }
    if (got != due) {
      wrong++;
      System.out.println(what + " throws " + got + ", due is " + due);
    }
  }

  static void noIndex(String what, Runnable call) {
    throwing(what, IndexOutOfBoundsException.class, call);
  }

  static void noArgument(String what, Runnable call) {
    throwing(what, IllegalArgumentException.class, call);
  }

  static void notNow(String what, Runnable call) {
    throwing(what, IllegalStateException.class, call);
  }

  static void end() {
    System.out.println(checks + " checks, " + wrong + " wrong");
    if (wrong != 0) {
      System.exit(1);
    }
  }

  void tick(int n) {
    int left = n;
    while (left > 0) {
      int now = Math.min(200, left);
      net.tick(now);
      left -= now;
    }
  }

  int clock() {
    return net.count(0);
  }

  /** The master sends a network order, and a tick goes by. */
  void order(int what, int address) {
    net.frame(0, false, 2, what | address << 8);
    net.tick(1);
  }

  void operate(int drive) {
    order(1, drive + 1);
  }

  /** Bytes of a request: the command, an index, a sub and four bytes. */
  static long request(int c, int index, int sub, long four) {
    return c | (long) index << 8 | (long) sub << 24 | four << 32;
  }

  /** A request is sent: its answer (the last one, if several come in the next two ticks). */
  long ask(int drive, long request) {
    int before = net.count(1);
    net.frame(0x601 + drive, false, 8, request);
    net.tick(2);
    List<Long> answers = framesOf(0x581 + drive, before);
    return answers.isEmpty() ? NO_ANSWER : answers.get(answers.size() - 1);
  }

  void asks(String what, int drive, long request, long due) {
    same(what, ask(drive, request), due);
  }

  static long aborted(int index, int sub, int code) {
    return request(0x80, index, sub, code);
  }

  /** The bytes of all frames with an ID that came to the log behind so many. */
  List<Long> framesOf(int id, int behind) {
    List<Long> found = new ArrayList<>();
    for (int i = behind; i < net.count(1); i++) {
      if (net.logged(i, 0) == id) {
        found.add(net.logged(i, 3));
      }
    }
    return found;
  }

  int lastTickOf(int id) {
    int tick = -1;
    for (int i = Math.max(0, net.count(1) - 256); i < net.count(1); i++) {
      if (net.logged(i, 0) == id) {
        tick = (int) net.logged(i, 5);
      }
    }
    return tick;
  }

  /** An entry is written in one piece: the code of the abort, 0 if it is well. */
  int write(int drive, int index, int sub, long value, int bytes) {
    long four = value & (bytes == 4 ? 0xFFFFFFFFL : (1L << 8 * bytes) - 1);
    long answer = ask(drive, request(0x23 + 4 * (4 - bytes), index, sub, four));
    if (answer == request(0x60, index, sub, 0)) {
      return 0;
    }
    boolean isAbort = answer != NO_ANSWER && (answer & 255) == 0x80;
    return isAbort ? (int) (answer >>> 32) : -1;
  }

  void set(int drive, int index, int sub, long value, int bytes) {
    same("writing " + Integer.toHexString(index) + " " + sub, write(drive, index, sub, value, bytes), 0);
  }

  /** The control word is written; two ticks go by. */
  void control(int drive, int word) {
    set(drive, 0x6040, 0, word, 2);
  }

  /** The drive comes to state 4. */
  void enable(int drive) {
    control(drive, 6);
    control(drive, 7);
    control(drive, 15);
    same("the power state", net.state(drive, 2), 4);
  }

  long entry(int drive, int index) {
    return net.entry(drive, index, 0);
  }

  /** The SUM, bit by bit as the document tells it. */
  static int sum(int[] bytes, int n) {
    int sum = 0;
    for (int i = 0; i < n; i++) {
      for (int bit = 7; bit >= 0; bit--) {
        int highest = sum >>> 15 & 1;
        sum = sum << 1 & 0xFFFF;
        if (highest != (bytes[i] >>> bit & 1)) {
          sum ^= 0x1021;
        }
      }
    }
    return sum;
  }
}
