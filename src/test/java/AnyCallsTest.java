import java.util.Random;

/**
 * Runs of calls by chance, the same ones each time: no call throws another exception than its own,
 * a call that throws changes nothing, and the same calls always give the same answers.
 */
public final class AnyCallsTest {
  private static final int RUNS = 400;
  private static final int CALLS = 512;
  private static final int[] INDEXES = {0x1000, 0x1001, 0x1003, 0x1005, 0x1006, 0x1008, 0x1010, 0x1011, 0x1015, 0x1016,
    0x1017, 0x1018, 0x1029, 0x1400, 0x1401, 0x1600, 0x1601, 0x1800, 0x1801, 0x1A00, 0x1A01, 0x2000, 0x2010, 0x2011,
    0x2012, 0x603F, 0x6040, 0x6041, 0x605A, 0x605B, 0x605C, 0x605D, 0x605E, 0x6060, 0x6061, 0x6064, 0x6065, 0x6066,
    0x6067, 0x6068, 0x607A, 0x607C, 0x607D, 0x607F, 0x6081, 0x6083, 0x6084, 0x6085, 0x6098, 0x6099, 0x609A, 0x60B8,
    0x60FD, 0x60FE, 0x60FF, 0x6502};
  private static final int[] WORDS = {0, 2, 6, 7, 15, 0x1F, 0x3F, 0x5F, 0x7F, 0x10F, 0x11F, 0x80, 0x86, 11};
  private static final int[] COMMANDS = {0x00, 0x01, 0x0D, 0x10, 0x11, 0x20, 0x21, 0x22, 0x23, 0x27, 0x2B, 0x2F, 0x40,
    0x60, 0x70, 0x80, 0x81, 0x82, 0x88, 0xA0, 0xA1, 0xA2, 0xA3, 0xA4, 0xC0, 0xC1, 0xC2, 0xC6, 0xDD, 0xE0, 0xFF};

  public static void main(String[] args) {
    int thrown = 0;
    for (int run = 0; run < RUNS; run++) {
      Walk one = new Walk(run);
      Walk other = new Walk(run);
      for (int i = 0; i < CALLS; i++) {
        long first = one.call();
        Rig.same("run " + run + " call " + i, other.call(), first);
      }
      thrown += one.thrown;
    }
    Rig.isTrue("many of them threw", thrown > RUNS);
    Rig.end();
  }

  private static final class Walk {
    final Random chance;
    final ServoNet net;
    int thrown;

    Walk(int seed) {
      chance = new Random(seed);
      net = new ServoNet(chance.nextInt(10));
      for (int k = 0; k < 4; k++) {
        net.power(k, chance.nextInt(3) > 0);
      }
    }

    /** A number that is most often below an end, and now and then anything. */
    int below(int end) {
      switch (chance.nextInt(60)) {
        case 0: return -1;
        case 1: return end;
        case 2: return chance.nextInt();
        default: return chance.nextInt(end);
      }
    }

    int pick(int[] row) {
      return chance.nextInt(40) == 0 ? chance.nextInt() : row[chance.nextInt(row.length)];
    }

    /** One call by chance: what it answers, and what all that can be told of the object tells then. */
    long call() {
      long before = digest();
      try {
        long answer = act(chance.nextInt(40));
        return answer * 31 + digest();
      } catch (IndexOutOfBoundsException | IllegalArgumentException | IllegalStateException e) {
        thrown++;
        if (e.getClass() != IndexOutOfBoundsException.class && e.getClass() != IllegalArgumentException.class
            && e.getClass() != IllegalStateException.class) {
          throw e;
        }
        Rig.same("a call that throws changes nothing", digest(), before);
        return e.getClass().getName().length();
      }
    }

    long act(int which) {
      switch (which) {
        case 0: return net.power(below(4), chance.nextInt(4) > 0) ? 1 : 0;
        case 1: return net.disturb(below(5), below(60));
        case 2: return net.hand(below(4), chance.nextInt(4001) - 2000, chance.nextBoolean());
        case 3: return net.inputs(below(4), below(8));
        case 4: return net.scratch(below(4), below(2), below(1024), below(256));
        case 5: return net.put(below(256));
        case 6: return net.clear();
        case 7:
        case 8:
          net.job(below(4), pick(INDEXES), below(4), chance.nextBoolean(), chance.nextBoolean());
          return 0;
        case 9:
          net.plan(below(4), 1000 + chance.nextInt(4), below(100));
          return 0;
        case 10: return net.setting(below(4), pick(INDEXES), below(3), chance.nextInt(100), 1 << chance.nextInt(4));
        case 11:
        case 12: return net.frame(0, false, 2, new int[] {1, 1, 1, 2, 128, 129, 130}[chance.nextInt(7)] | below(5) << 8);
        case 13: return net.frame(below(2048), chance.nextBoolean(), below(9), chance.nextLong());
        case 14: return net.frame(0x701 + chance.nextInt(4), chance.nextBoolean(), 1, chance.nextInt(256));
        case 15: return net.frame(0x80, chance.nextInt(4) == 0, 0, 0);
        case 16: return net.frame(0x201 + chance.nextInt(4), false, 2, pick(WORDS));
        case 17: return net.frame(0x181 + chance.nextInt(4), true, 2, 0);
        case 18:
        case 19:
        case 20: return control();
        case 21:
        case 22:
        case 23:
        case 24: return write();
        case 25:
        case 26:
        case 27: return net.frame(0x601 + chance.nextInt(4), false, 8, request());
        case 28: return net.frame(0x601 + chance.nextInt(4), false, 8, Rig.request(0x23, 0x1010, 1, 0x65766173L));
        case 29: return net.frame(0x601 + chance.nextInt(4), false, 8, Rig.request(0x23, 0x1011, 1, 0x64616F6CL));
        case 30: return ask();
        default: return net.tick(chance.nextInt(60) == 0 ? 201 : chance.nextInt(chance.nextInt(20) == 0 ? 200 : 12));
      }
    }

    long control() {
      return net.frame(0x601 + chance.nextInt(4), false, 8, Rig.request(0x2B, 0x6040, 0, pick(WORDS) & 0xFFFF));
    }

    long write() {
      int bytes = new int[] {1, 2, 4, 4}[chance.nextInt(4)];
      long v = chance.nextInt(3) == 0 ? chance.nextInt() & 0xFFFFFFFFL : chance.nextInt(3000);
      int c = 0x23 + 4 * (4 - bytes);
      return net.frame(0x601 + chance.nextInt(4), false, 8, Rig.request(c, pick(INDEXES) & 0xFFFF, below(6) & 255, v));
    }

    long request() {
      long four = chance.nextBoolean() ? chance.nextInt(30) : chance.nextInt() & 0xFFFFFFFFL;
      return Rig.request(pick(COMMANDS) & 255, pick(INDEXES) & 0xFFFF, below(4) & 255, four);
    }

    long ask() {
      switch (chance.nextInt(9)) {
        case 0: return net.entry(below(4), pick(INDEXES), below(4));
        case 1: return net.octet(below(4), pick(INDEXES), below(4), below(130));
        case 2: return net.state(below(4), below(9));
        case 3: return net.station(below(5), below(5));
        case 4: return net.place(below(4), below(4));
        case 5: return net.logged(below(400), below(6));
        case 6: return net.heard(below(4), below(2)) + net.planned(below(4), below(5));
        case 7: return net.bank(below(4), below(2), below(1024));
        default: return net.told(below(4)) + net.count(below(4)) + net.buffer(below(160));
      }
    }

    long digest() {
      long sum = 0;
      for (int what = 0; what < 4; what++) {
        sum = sum * 31 + net.count(what);
        sum = sum * 31 + net.told(what);
      }
      for (int k = 0; k < 4; k++) {
        for (int what = 0; what < 9; what++) {
          sum = sum * 31 + net.state(k, what);
        }
        for (int what = 0; what < 4; what++) {
          sum = sum * 31 + net.place(k, what);
        }
        for (int what = 0; what < 5; what++) {
          sum = sum * 31 + net.planned(k, what);
          sum = sum * 31 + net.station(k + 1, what);
        }
        sum = sum * 31 + net.heard(k, 0) + 7 * net.heard(k, 1);
        if (net.state(k, 0) == 1) {
          sum = sum * 31 + net.entry(k, 0x6041, 0) + net.entry(k, 0x60FD, 0) + net.entry(k, 0x603F, 0);
        }
      }
      return sum;
    }
  }
}
