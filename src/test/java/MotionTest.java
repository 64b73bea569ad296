/** The drive: section 8 of the terms, and promises 6, 7 and 12. */
public final class MotionTest {
  private static final long MILLION = 1000000L;

  public static void main(String[] args) {
    powerStates();
    enablesInOneTickEach();
    leaving();
    quickStops();
    faultReactions();
    resetsByARisingBit();
    exactPlaces();
    aPlaceThatIsNear();
    goalsOneBehindTheOther();
    goalsAtOnce();
    relativeGoals();
    boundsCut();
    targetTakesItsTime();
    halts();
    speeds();
    speedsUpToTheLimit();
    following();
    homing35();
    homingToSwitches();
    homingThatFails();
    switchesAreFaults();
    modesChangeAtRest();
    theShaft();
    coasting();
    farFromTheDemand();
    theTrace();
    theProbe();
    wrongNumbers();
    switchesAtRest();
    leavesOnlyOnce();
    nothingOfTheModeStays();
    withoutAGoalItBrakes();
    boundsThatMeet();
    homingAgain();
    homingWithOddSpeeds();
    bootsAtRest();
    nearOnce();
    Rig.end();
  }

  private static Rig in(int mode) {
    Rig rig = Rig.withDrives(1);
    rig.set(0, 0x6060, 0, mode, 1);
    rig.enable(0);
    Rig.same("the mode", rig.net.entry(0, 0x6061, 0), mode);
    return rig;
  }

  /** A control word counts in the tick in which it comes. */
  private static void word(Rig rig, int word) {
    rig.net.frame(0x601, false, 8, Rig.request(0x2B, 0x6040, 0, word));
    rig.net.tick(1);
  }

  private static void at(String what, Rig rig, long demand, long speed) {
    Rig.same(what + ": demand", rig.net.place(0, 0), demand);
    Rig.same(what + ": speed", rig.net.place(0, 1), speed);
  }

  private static Rig rigInState(int state) {
    Rig rig = Rig.withDrives(1);
    int[] words = {0, 6, 7, 15};
    for (int s = 2; s <= Math.min(4, state); s++) {
      word(rig, words[s - 1]);
    }
    if (state == 5) {
      rig.set(0, 0x605A, 0, 6, 2);
      word(rig, 2);
    }
    Rig.same("the state to begin with", rig.net.state(0, 2), state);
    return rig;
  }

  /** Each state with each of the sixteen words: where it goes. */
  private static void powerStates() {
    for (int state = 1; state <= 5; state++) {
      for (int w = 0; w < 16; w++) {
        Rig rig = rigInState(state);
        word(rig, w);
        Rig.same("from " + state + " by " + w, rig.net.state(0, 2), nextState(state, w));
        int[] status = {0, 0x40, 0x21, 0x33, 0x37, 0x17};
        Rig.same("the status", rig.net.entry(0, 0x6041, 0), status[rig.net.state(0, 2)]);
      }
    }
  }

  private static int nextState(int state, int w) {
    boolean disable = (w & 2) == 0;
    boolean stop = (w & 6) == 2;
    boolean shut = (w & 7) == 6;
    boolean enable = w == 15;
    switch (state) {
      case 1: return shut ? 2 : 1;
      case 2: return disable || stop ? 1 : shut ? 2 : 3;
      case 3: return disable || stop ? 1 : shut ? 2 : enable ? 4 : 3;
      case 4: return disable ? 1 : stop ? 5 : shut ? 2 : enable ? 4 : 3;
      default: return disable ? 1 : enable ? 4 : 5;
    }
  }

  private static void enablesInOneTickEach() {
    Rig rig = Rig.withDrives(1);
    word(rig, 15);
    Rig.same("not from 1", rig.net.state(0, 2), 1);
    word(rig, 6);
    word(rig, 15);
    Rig.same("just one step", rig.net.state(0, 2), 3);
    rig.tick(1);
    Rig.same("the next one", rig.net.state(0, 2), 4);
  }

  private static Rig moving() {
    Rig rig = in(3);
    rig.set(0, 0x60FF, 0, 300, 4);
    rig.tick(50);
    at("moving", rig, rig.net.place(0, 0), 300000);
    return rig;
  }

  private static void leaving() {
    Rig rig = moving();
    long place = rig.net.place(0, 0);
    word(rig, 7);
    Rig.same("ON: it leaves", rig.net.state(0, 2), 4);
    at("braking by 0x6084", rig, place + 290000, 290000);
    word(rig, 15);
    at("ENABLE: it does not", rig, place + 290000 + 300000, 300000);
    word(rig, 7);
    rig.tick(29);
    at("at rest", rig, rig.net.place(0, 0), 0);
    Rig.same("state 4 still", rig.net.state(0, 2), 4);
    rig.tick(1);
    Rig.same("then it is in 3", rig.net.state(0, 2), 3);
    Rig shut = moving();
    word(shut, 6);
    Rig.same("SHUT with 0x605B 0: at once", shut.net.state(0, 2), 2);
    at("without the stage", shut, shut.net.place(0, 2), 0);
    Rig slow = moving();
    slow.set(0, 0x605B, 0, 1, 2);
    slow.set(0, 0x605C, 0, 0, 2);
    word(slow, 6);
    Rig.same("SHUT with 0x605B 1: it leaves", slow.net.state(0, 2), 4);
    slow.tick(30);
    Rig.same("for 2", slow.net.state(0, 2), 2);
    word(slow, 7);
    word(slow, 15);
    slow.tick(20);
    word(slow, 7);
    Rig.same("ON with 0x605C 0: at once", slow.net.state(0, 2), 3);
  }

  private static void quickStops() {
    int[][] due = {{0, 0, 1}, {1, 10000, 1}, {2, 50000, 1}, {5, 10000, 5}, {6, 50000, 5}};
    for (int[] d : due) {
      Rig rig = moving();
      rig.set(0, 0x605A, 0, d[0], 2);
      long place = rig.net.place(0, 0);
      word(rig, 11);
      if (d[0] == 0) {
        Rig.same("0x605A 0", rig.net.state(0, 2), 1);
        continue;
      }
      Rig.same("quick stop", rig.net.state(0, 2), 5);
      at("option " + d[0], rig, place + 300000 - d[1], 300000 - d[1]);
      rig.tick(300000 / d[1] - 1);
      at("option " + d[0], rig, rig.net.place(0, 0), 0);
      Rig.same("state 5", rig.net.state(0, 2), 5);
      rig.tick(1);
      Rig.same("then", rig.net.state(0, 2), d[2]);
      word(rig, 15);
      Rig.same("ENABLE", rig.net.state(0, 2), d[2] == 5 ? 4 : 1);
    }
    Rig back = moving();
    back.set(0, 0x605A, 0, 6, 2);
    word(back, 2);
    word(back, 15);
    Rig.same("back while moving", back.net.state(0, 2), 4);
    at("up again", back, back.net.place(0, 0), 260000);
  }

  private static void faultReactions() {
    int[][] due = {{0, 0}, {1, 10000}, {2, 50000}};
    for (int[] d : due) {
      Rig rig = moving();
      rig.set(0, 0x605E, 0, d[0], 2);
      rig.set(0, 0x1016, 1, 0x7F0001L, 4);
      rig.net.frame(0x77F, false, 1, 5);
      rig.tick(2);
      long place = rig.net.place(0, 0);
      rig.tick(1);
      if (d[0] == 0) {
        Rig.same("0x605E 0", rig.net.state(0, 2), 7);
        continue;
      }
      Rig.same("fault reaction", rig.net.state(0, 2), 6);
      Rig.same("its status", rig.net.entry(0, 0x6041, 0), 0x1F);
      at("option " + d[0], rig, place + 300000 - d[1], 300000 - d[1]);
      rig.tick(300000 / d[1]);
      Rig.same("then fault", rig.net.state(0, 2), 7);
      Rig.same("its status then", rig.net.entry(0, 0x6041, 0), 8);
    }
  }

  private static void resetsByARisingBit() {
    Rig rig = Rig.withDrives(1);
    word(rig, 0x80);
    rig.set(0, 0x1016, 1, 0x7F0001L, 4);
    rig.net.frame(0x77F, false, 1, 5);
    rig.tick(5);
    Rig.same("fault", rig.net.state(0, 2), 7);
    word(rig, 0x86);
    Rig.same("the bit did not rise", rig.net.state(0, 2), 7);
    word(rig, 0x06);
    word(rig, 0x86);
    Rig.same("it rose", rig.net.state(0, 2), 1);
    rig.tick(1);
    Rig.same("just one step in a tick", rig.net.state(0, 2), 2);
  }

  /** What is gone while braking from u by b, by adding it up. */
  private static long gone(long u, long b) {
    long sum = 0;
    for (long rest = u - b; rest > 0; rest -= b) {
      sum += rest;
    }
    return sum;
  }

  private static long nextSize(long s, long d, long v, long a, long b) {
    long low = Math.max(0, s - b);
    for (long u = Math.min(s + a, v); u >= low; u--) {
      if (u + gone(u, b) <= d) {
        return u;
      }
    }
    return low;
  }

  private static void exactPlaces() {
    long[][] moves = {{5, 3, 700, 900}, {1, 1, 1, 1}, {-7, 2, 1000, 333}, {40, 30, 2000, 5000}, {-3, 2000, 3001, 77},
      {0, 1, 1, 1}, {9, 6, 5000, 1}};
    for (long[] m : moves) {
      Rig rig = Rig.withDrives(1);
      rig.set(0, 0x6081, 0, m[1], 4);
      rig.set(0, 0x6083, 0, m[2], 4);
      rig.set(0, 0x6084, 0, m[3], 4);
      rig.set(0, 0x607A, 0, m[0], 4);
      rig.enable(0);
      word(rig, 0x1F);
      long target = m[0] * MILLION;
      long place = 0;
      long speed = 0;
      for (int i = 0; i < 400; i++) {
        long way = target - place;
        if (way == 0) {
          speed = Math.max(0, Math.abs(speed) - m[3]) * Long.signum(speed);
        } else {
          speed = Long.signum(way) * nextSize(Math.abs(speed), Math.abs(way), 1000 * m[1], m[2], m[3]);
        }
        place += speed;
        at("to " + m[0] + " tick " + i, rig, place, speed);
        rig.tick(1);
      }
    }
  }

  private static void aPlaceThatIsNear() {
    Rig rig = Rig.withDrives(1);
    rig.set(0, 0x6081, 0, 2000000, 4);
    rig.set(0, 0x607F, 0, 2000000, 4);
    rig.set(0, 0x6083, 0, 100000000, 4);
    rig.set(0, 0x6084, 0, 100000000, 4);
    rig.set(0, 0x607A, 0, 1000, 4);
    rig.enable(0);
    word(rig, 0x1F);
    at("as fast as may be", rig, 100000000, 100000000);
    rig.tick(40);
    at("there", rig, 1000 * MILLION, 0);
    rig.set(0, 0x607A, 0, -1000000000, 4);
    word(rig, 0x0F);
    word(rig, 0x1F);
    rig.tick(20);
    Rig.same("the greatest speed", rig.net.place(0, 1), -2000000000L);
    rig.set(0, 0x6084, 0, 1, 4);
    rig.tick(30);
    Rig.same("the goal has its own change", rig.net.place(0, 1), -2000000000L);
  }

  private static void goalsOneBehindTheOther() {
    Rig rig = in(1);
    rig.set(0, 0x607A, 0, 5, 4);
    word(rig, 0x1F);
    Rig.same("BIT 12", rig.net.entry(0, 0x6041, 0), 0x1037);
    word(rig, 0x0F);
    Rig.same("till bit 4 is 0", rig.net.entry(0, 0x6041, 0), 0x0037);
    rig.set(0, 0x607A, 0, 9, 4);
    word(rig, 0x1F);
    word(rig, 0x0F);
    rig.set(0, 0x607A, 0, 2, 4);
    word(rig, 0x1F);
    boolean stood = false;
    for (int i = 0; i < 200; i++) {
      stood |= rig.net.place(0, 0) == 5 * MILLION;
      Rig.isTrue("it does not go beyond", rig.net.place(0, 0) <= 5 * MILLION);
      rig.tick(1);
    }
    Rig.isTrue("it came to the first", stood);
    at("the one that waited last", rig, 2 * MILLION, 0);
    Rig.same("there", rig.net.entry(0, 0x6041, 0), 0x1437);
    rig.set(0, 0x607A, 0, 3, 4);
    rig.tick(50);
    at("a target alone does nothing", rig, 2 * MILLION, 0);
    word(rig, 0x1F);
    rig.tick(50);
    at("nor does bit 4 that does not rise", rig, 2 * MILLION, 0);
    word(rig, 0x0F);
    word(rig, 0x1F);
    rig.tick(60);
    at("standing at its goal it takes the next at once", rig, 3 * MILLION, 0);
  }

  private static void goalsAtOnce() {
    Rig rig = in(1);
    rig.set(0, 0x607A, 0, 100, 4);
    word(rig, 0x1F);
    rig.tick(20);
    word(rig, 0x0F);
    rig.set(0, 0x607A, 0, 50, 4);
    word(rig, 0x1F);
    word(rig, 0x0F);
    rig.set(0, 0x607A, 0, -1, 4);
    long speed = rig.net.place(0, 1);
    long place = rig.net.place(0, 0);
    word(rig, 0x3F);
    at("it brakes at once", rig, place + speed - 10000, speed - 10000);
    rig.tick(200);
    at("the latter, and none waits", rig, -MILLION, 0);
  }

  private static void relativeGoals() {
    Rig rig = Rig.withDrives(1);
    rig.net.hand(0, -3, false);
    rig.enable(0);
    rig.set(0, 0x607A, 0, 5, 4);
    word(rig, 0x5F);
    rig.tick(90);
    at("behind the demand", rig, 2 * MILLION, 0);
    word(rig, 0x0F);
    word(rig, 0x5F);
    word(rig, 0x0F);
    word(rig, 0x5F);
    rig.tick(200);
    at("behind the last ones taken", rig, 12 * MILLION, 0);
    word(rig, 0x0F);
    rig.set(0, 0x607A, 0, -4, 4);
    word(rig, 0x1F);
    word(rig, 0x0F);
    word(rig, 0x7F);
    rig.tick(200);
    at("behind one that it never came to", rig, -8 * MILLION, 0);
  }

  private static void boundsCut() {
    Rig rig = Rig.withDrives(1);
    rig.set(0, 0x607D, 1, -3, 4);
    rig.set(0, 0x607D, 2, 4, 4);
    rig.enable(0);
    rig.set(0, 0x607A, 0, 100, 4);
    word(rig, 0x1F);
    rig.tick(100);
    at("the greatest", rig, 4 * MILLION, 0);
    word(rig, 0x0F);
    rig.set(0, 0x607A, 0, -9, 4);
    word(rig, 0x5F);
    rig.tick(100);
    at("behind the goal as it was cut, the least", rig, -3 * MILLION, 0);
    word(rig, 0);
    rig.set(0, 0x607D, 1, 5, 4);
    rig.enable(0);
    rig.set(0, 0x607A, 0, -20, 4);
    word(rig, 0x1F);
    rig.tick(200);
    at("sub 1 above sub 2: no bounds", rig, -20 * MILLION, 0);
  }

  private static void targetTakesItsTime() {
    Rig rig = in(1);
    rig.set(0, 0x607A, 0, 1, 4);
    word(rig, 0x1F);
    int standing = 0;
    for (int i = 0; i < 60; i++) {
      standing = rig.net.place(0, 0) == MILLION && rig.net.place(0, 1) == 0 ? standing + 1 : 0;
      boolean target = (rig.net.entry(0, 0x6041, 0) & 0x400) != 0;
      Rig.same("TARGET behind " + standing, target ? 1 : 0, standing >= 5 ? 1 : 0);
      rig.tick(1);
    }
    rig.net.hand(0, 11, true);
    rig.tick(1);
    Rig.same("a shaft that is too far", rig.net.entry(0, 0x6041, 0) & 0x400, 0);
    rig.net.hand(0, -1, true);
    rig.tick(4);
    Rig.same("four ticks near", rig.net.entry(0, 0x6041, 0) & 0x400, 0);
    rig.tick(1);
    Rig.same("five", rig.net.entry(0, 0x6041, 0) & 0x400, 0x400);
    rig.set(0, 0x6068, 0, 1000, 2);
    Rig.same("reckoned when it is read", rig.net.entry(0, 0x6041, 0) & 0x400, 0);
    rig.set(0, 0x6068, 0, 0, 2);
    Rig.same("with 0x6068 0", rig.net.entry(0, 0x6041, 0) & 0x400, 0x400);
    rig.set(0, 0x6067, 0, 0, 4);
    rig.tick(1);
    Rig.same("at least one", rig.net.entry(0, 0x6041, 0) & 0x400, 0);
  }

  private static void halts() {
    Rig rig = in(1);
    rig.set(0, 0x607A, 0, 100, 4);
    word(rig, 0x1F);
    rig.tick(30);
    long speed = rig.net.place(0, 1);
    word(rig, 0x11F);
    Rig.same("by 0x6084", rig.net.place(0, 1), speed - 10000);
    rig.set(0, 0x605D, 0, 2, 2);
    Rig.same("by 0x6085", rig.net.place(0, 1), speed - 10000 - 2 * 50000);
    rig.tick(30);
    Rig.same("at rest", rig.net.place(0, 1), 0);
    word(rig, 0x1F);
    Rig.same("it goes on", rig.net.place(0, 1), 10000);
    word(rig, 0x10F);
    rig.tick(40);
    Rig.same("BIT 12 stays while it halts", rig.net.entry(0, 0x6041, 0) & 0x1000, 0x1000);
    word(rig, 0x0F);
    Rig.same("and is 0 then", rig.net.entry(0, 0x6041, 0) & 0x1000, 0);
    Rig missed = in(1);
    missed.set(0, 0x607A, 0, 100, 4);
    word(missed, 0x11F);
    word(missed, 0x1F);
    missed.tick(20);
    at("a rise while it halts is missed", missed, 0, 0);
  }

  private static void speeds() {
    Rig rig = in(3);
    Rig.same("at rest: TARGET and BIT 12", rig.net.entry(0, 0x6041, 0), 0x1437);
    rig.set(0, 0x60FF, 0, -25, 4);
    at("two ticks", rig, -30000, -20000);
    Rig.same("neither", rig.net.entry(0, 0x6041, 0), 0x37);
    rig.tick(1);
    at("its speed", rig, -55000, -25000);
    Rig.same("TARGET", rig.net.entry(0, 0x6041, 0), 0x437);
    rig.set(0, 0x60FF, 0, 5, 4);
    at("it brakes first", rig, -55000 - 15000 - 5000, -5000);
    rig.tick(1);
    at("to 0", rig, -75000, 0);
    rig.tick(1);
    at("then turns", rig, -70000, 5000);
    Rig.same("0x606B", rig.net.entry(0, 0x606B, 0), 5);
    word(rig, 0);
    rig.set(0, 0x607F, 0, 3, 4);
    rig.enable(0);
    rig.tick(5);
    Rig.same("FAST", rig.net.place(0, 1), 3000);
    Rig.same("TARGET is FAST, too", rig.net.entry(0, 0x6041, 0), 0x437);
    rig.set(0, 0x60FF, 0, 0, 4);
    rig.tick(2);
    Rig.same("0: it stands", rig.net.entry(0, 0x6041, 0), 0x1437);
  }

  private static void speedsUpToTheLimit() {
    Rig rig = Rig.withDrives(1);
    rig.set(0, 0x6060, 0, 3, 1);
    rig.set(0, 0x607D, 1, -2, 4);
    rig.set(0, 0x607D, 2, 3, 4);
    rig.enable(0);
    rig.set(0, 0x60FF, 0, 500, 4);
    rig.tick(100);
    at("the greatest place", rig, 3 * MILLION, 0);
    Rig.same("LIMIT and BIT 12", rig.net.entry(0, 0x6041, 0), 0x1837);
    rig.set(0, 0x60FF, 0, -500, 4);
    Rig.same("no LIMIT", rig.net.entry(0, 0x6041, 0) & 0x800, 0);
    rig.tick(100);
    at("the least place", rig, -2 * MILLION, 0);
    Rig.same("LIMIT again", rig.net.entry(0, 0x6041, 0), 0x1837);
  }

  private static void following() {
    Rig rig = in(8);
    Rig.same("it stands there: TARGET, BIT 12 always", rig.net.entry(0, 0x6041, 0), 0x1437);
    rig.set(0, 0x607A, 0, 2, 4);
    Rig.same("on its way", rig.net.entry(0, 0x6041, 0), 0x1037);
    Rig.same("with 0x6083", rig.net.place(0, 1), 20000);
    word(rig, 0x10F);
    Rig.same("bit 8 does not count", rig.net.place(0, 1), 30000);
    rig.tick(60);
    at("there", rig, 2 * MILLION, 0);
    Rig.same("TARGET", rig.net.entry(0, 0x6041, 0), 0x1437);
    rig.set(0, 0x607A, 0, -1, 4);
    rig.tick(60);
    at("there, too", rig, -MILLION, 0);
    word(rig, 0);
    rig.set(0, 0x607F, 0, 100, 4);
    rig.set(0, 0x607D, 2, 7, 4);
    rig.enable(0);
    rig.set(0, 0x607A, 0, 1000, 4);
    rig.tick(40);
    Rig.same("with 0x607F", rig.net.place(0, 1), 100000);
    rig.tick(100);
    at("CUT", rig, 7 * MILLION, 0);
    Rig.same("which is TARGET", rig.net.entry(0, 0x6041, 0), 0x1437);
  }

  private static void homing35() {
    Rig rig = Rig.withDrives(1);
    rig.set(0, 0x607C, 0, 500, 4);
    rig.set(0, 0x6060, 0, 6, 1);
    rig.net.hand(0, -7, false);
    rig.enable(0);
    Rig.same("nothing goes on: TARGET", rig.net.entry(0, 0x6041, 0), 0x437);
    word(rig, 0x1F);
    at("there at once", rig, 500 * MILLION, 0);
    Rig.same("the shaft, too", rig.net.place(0, 2), 500 * MILLION);
    Rig.same("it did not come there in part G", rig.net.place(0, 3), 0);
    Rig.same("BIT 12 and TARGET", rig.net.entry(0, 0x6041, 0), 0x1437);
    word(rig, 0x0F);
    Rig.same("BIT 12 stays", rig.net.entry(0, 0x6041, 0), 0x1437);
  }

  private static void homingToSwitches() {
    for (int method = 17; method <= 18; method++) {
      int bit = method - 16;
      int sign = method == 17 ? -1 : 1;
      Rig rig = Rig.withDrives(1);
      rig.set(0, 0x6098, 0, method, 1);
      rig.set(0, 0x6099, 1, 30, 4);
      rig.set(0, 0x6099, 2, 5, 4);
      rig.set(0, 0x607C, 0, 77, 4);
      rig.set(0, 0x6060, 0, 6, 1);
      rig.enable(0);
      word(rig, 0x1F);
      at("phase 1", rig, sign * 10000, sign * 10000);
      Rig.same("it goes on", rig.net.entry(0, 0x6041, 0), 0x37);
      rig.set(0, 0x6098, 0, 35, 1);
      rig.tick(3);
      at("its speed", rig, sign * 150000, sign * 30000);
      rig.net.inputs(0, 3 - bit);
      rig.tick(1);
      at("the other switch does not count", rig, sign * 180000, sign * 30000);
      rig.net.inputs(0, bit);
      rig.tick(1);
      at("phase 2", rig, sign * 200000, sign * 20000);
      rig.tick(2);
      at("at rest", rig, sign * 210000, 0);
      rig.tick(1);
      at("phase 3", rig, sign * 205000, -sign * 5000);
      rig.tick(2);
      at("on its way", rig, sign * 195000, -sign * 5000);
      rig.net.inputs(0, 0);
      rig.tick(1);
      at("phase 4", rig, sign * 195000, 0);
      Rig.same("it goes on still", rig.net.entry(0, 0x6041, 0), 0x37);
      rig.tick(1);
      at("there", rig, 77 * MILLION, 0);
      Rig.same("BIT 12 and TARGET", rig.net.entry(0, 0x6041, 0), 0x1437);
      Rig.same("the shaft", rig.net.place(0, 2), 77 * MILLION);
    }
  }

  private static void homingThatFails() {
    Rig rig = Rig.withDrives(1);
    rig.set(0, 0x6098, 0, 0, 1);
    rig.set(0, 0x6060, 0, 6, 1);
    rig.enable(0);
    word(rig, 0x1F);
    Rig.same("0x6098 0: BIT 13", rig.net.entry(0, 0x6041, 0), 0x2437);
    word(rig, 0x0F);
    Rig.same("till bit 4 is 0", rig.net.entry(0, 0x6041, 0), 0x437);
    rig.set(0, 0x6098, 0, 18, 1);
    word(rig, 0x1F);
    rig.tick(4);
    word(rig, 0x0F);
    Rig.same("what goes on ends", rig.net.place(0, 1), 40000);
    word(rig, 0x1F);
    Rig.same("with a speed: BIT 13", rig.net.entry(0, 0x6041, 0), 0x2037);
    Rig.same("and it brakes by 0x609A", rig.net.place(0, 1), 30000);
  }

  private static void switchesAreFaults() {
    for (int sign = -1; sign <= 1; sign += 2) {
      Rig rig = in(3);
      rig.set(0, 0x60FF, 0, 20 * sign, 4);
      rig.tick(5);
      rig.net.inputs(0, sign > 0 ? 1 : 2);
      rig.tick(5);
      Rig.same("the switch behind it", rig.net.state(0, 2), 4);
      long place = rig.net.place(0, 0);
      rig.set(0, 0x605E, 0, 1, 2);
      place += 2 * 20000 * sign;
      rig.net.inputs(0, 3);
      rig.tick(1);
      Rig.same("0x8612", rig.net.entry(0, 0x603F, 0), 0x8612);
      Rig.same("fault reaction", rig.net.state(0, 2), 6);
      at("braking as in 6", rig, place + 10000 * sign, 10000 * sign);
    }
  }

  private static void modesChangeAtRest() {
    Rig rig = in(3);
    rig.set(0, 0x60FF, 0, 10, 4);
    rig.set(0, 0x6060, 0, 1, 1);
    Rig.same("not while it moves", rig.net.entry(0, 0x6061, 0), 3);
    rig.set(0, 0x60FF, 0, 0, 4);
    rig.tick(1);
    Rig.same("at rest", rig.net.entry(0, 0x6061, 0), 1);
    rig.set(0, 0x607A, 0, 1, 4);
    word(rig, 0x1F);
    rig.tick(50);
    Rig.same("TARGET", rig.net.entry(0, 0x6041, 0), 0x1437);
    rig.set(0, 0x6060, 0, 0, 1);
    Rig.same("mode 0 tells nothing", rig.net.entry(0, 0x6041, 0), 0x37);
    rig.set(0, 0x6060, 0, 1, 1);
    Rig.same("the mode begins anew", rig.net.entry(0, 0x6041, 0), 0x37);
    word(rig, 7);
    rig.set(0, 0x6060, 0, 6, 1);
    Rig.same("in other states always", rig.net.entry(0, 0x6061, 0), 6);
    Rig again = in(1);
    again.set(0, 0x607A, 0, 1, 4);
    word(again, 0x1F);
    again.tick(50);
    word(again, 0x17);
    again.tick(1);
    word(again, 0x1F);
    again.tick(10);
    Rig.same("state 4 begins anew from 3", again.net.entry(0, 0x6041, 0), 0x37);
  }

  private static void theShaft() {
    Rig rig = Rig.withDrives(1);
    ServoNet net = rig.net;
    Rig.same("a hand", net.hand(0, 1000000, false), 1000000);
    Rig.same("0x6064", net.entry(0, 0x6064, 0), 1000000);
    Rig.same("the demand does not move", net.place(0, 0), 0);
    rig.tick(1);
    Rig.same("but in the work", net.place(0, 0), 1000000 * MILLION);
    Rig.same("it did not move in part G", net.place(0, 3), 0);
    Rig.same("back", net.hand(0, -1000000, false), 0);
    rig.tick(1);
    rig.set(0, 0x6065, 0, 0, 4);
    rig.enable(0);
    net.hand(0, -7000, false);
    rig.tick(1);
    Rig.same("at most 3000000000", net.place(0, 2), -4000 * MILLION);
    Rig.same("in part G", net.place(0, 3), 3000 * MILLION);
    Rig.same("0x606C", net.entry(0, 0x606C, 0), 3000000);
    rig.tick(2);
    Rig.same("then the rest", net.place(0, 2), 0);
    Rig.same("which was 1000", net.place(0, 3), 1000 * MILLION);
    net.hand(0, 5, true);
    rig.tick(3);
    Rig.same("held", net.place(0, 2), 5 * MILLION);
    Rig.same("it does not move", net.place(0, 3), 0);
    Rig.same("also by a hand", net.hand(0, -10, true), -5);
    Rig.same("0x60FD", net.entry(0, 0x60FD, 0), 65536);
    Rig.same("without power, too", net.power(0, false) ? net.hand(0, 1, true) : 0, -4);
    Rig.same("the demand is where the shaft is", net.place(0, 0), -4 * MILLION);
    net.power(0, true);
    Rig.same("held still", net.entry(0, 0x60FD, 0), 65536);
    Rig.same("where it is", net.entry(0, 0x6062, 0), -4);
    Rig.same("inputs", net.inputs(0, 65535), 0);
    Rig.same("0x60FD with them", net.entry(0, 0x60FD, 0), 131071);
    Rig.same("what they were", net.inputs(0, 0), 65535);
  }

  private static void coasting() {
    Rig rig = in(3);
    ServoNet net = rig.net;
    rig.set(0, 0x60FF, 0, -77, 4);
    rig.tick(20);
    Rig.same("moving", net.place(0, 3), -77000);
    long place = net.place(0, 2);
    word(rig, 0);
    Rig.same("half of it", net.place(0, 3), -38500);
    Rig.same("the demand is there", net.place(0, 0), place - 38500);
    Rig.same("without a speed", net.place(0, 1), 0);
    rig.tick(2);
    Rig.same("an eighth, rounded towards 0", net.place(0, 3), -9625);
    rig.tick(1);
    Rig.same("and on", net.place(0, 3), -4812);
    net.hand(0, 0, true);
    net.hand(0, 0, false);
    rig.tick(1);
    Rig.same("held between two ticks", net.place(0, 3), 0);
    Rig other = in(3);
    other.set(0, 0x60FF, 0, 77, 4);
    other.tick(20);
    word(other, 0);
    place = other.net.place(0, 2);
    other.net.power(0, false);
    Rig.same("without power nothing moves", other.net.place(0, 3), 0);
    other.net.power(0, true);
    other.tick(3);
    Rig.same("nor behind booting", other.net.place(0, 2), place);
  }

  private static void farFromTheDemand() {
    Rig rig = Rig.withDrives(1);
    ServoNet net = rig.net;
    rig.enable(0);
    net.hand(0, 2000, true);
    rig.tick(30);
    Rig.same("2000 is not more than 2000", net.state(0, 2), 4);
    net.hand(0, 1, true);
    rig.tick(10);
    Rig.same("ten ticks", net.state(0, 2), 4);
    net.hand(0, -1, true);
    rig.tick(1);
    net.hand(0, 1, true);
    rig.tick(10);
    Rig.same("one behind the other", net.state(0, 2), 4);
    rig.tick(1);
    Rig.same("eleven: 0x8611", net.entry(0, 0x603F, 0), 0x8611);
    Rig.same("0x1001", net.entry(0, 0x1001, 0), 0x21);
    Rig.same("fault reaction", net.state(0, 2), 6);
    Rig off = Rig.withDrives(1);
    off.set(0, 0x6065, 0, 0, 4);
    off.enable(0);
    off.net.hand(0, 1000000, true);
    off.tick(50);
    Rig.same("with 0x6065 0 never", off.net.state(0, 2), 4);
  }

  private static void theTrace() {
    Rig rig = Rig.withDrives(1);
    ServoNet net = rig.net;
    Rig.same("the first work", net.entry(0, 0x2010, 0), 4);
    for (int i = 1; i < 40; i++) {
      net.hand(0, -1, false);
      rig.tick(1);
      Rig.same("how many bytes", net.entry(0, 0x2010, 0), Math.min(128, 4 * (i + 1)));
    }
    Rig.same("the first one", net.octet(0, 0x2010, 0, 0), -8 & 255);
    Rig.same("the last one", net.octet(0, 0x2010, 0, 124), -39 & 255);
    Rig.same("its sign", net.octet(0, 0x2010, 0, 127), 255);
    Rig.same("behind it", net.octet(0, 0x2010, 0, 128), -1);
    Rig slow = new Rig(8);
    slow.net.power(0, true);
    slow.tick(2);
    slow.net.frame(0x601, false, 8, Rig.request(0x2F, 0x2012, 0, 3));
    slow.tick(1);
    Rig.same("written, the next work counts; what was stays", slow.net.entry(0, 0x2010, 0), 12);
    slow.tick(2);
    Rig.same("then every third", slow.net.entry(0, 0x2010, 0), 12);
    slow.tick(1);
    Rig.same("one", slow.net.entry(0, 0x2010, 0), 16);
    slow.tick(6);
    Rig.same("two more", slow.net.entry(0, 0x2010, 0), 24);
  }

  private static void theProbe() {
    Rig rig = Rig.withDrives(1);
    ServoNet net = rig.net;
    net.hand(0, 11, false);
    net.inputs(0, 4);
    rig.tick(1);
    net.inputs(0, 0);
    rig.tick(1);
    Rig.same("without bit 0 nothing", net.entry(0, 0x60B9, 0), 0);
    rig.set(0, 0x60B8, 0, 0x31, 2);
    Rig.same("bit 0 as 0x60B8 has it", net.entry(0, 0x60B9, 0), 1);
    net.inputs(0, 4);
    rig.tick(1);
    Rig.same("it rose", net.entry(0, 0x60B9, 0), 3);
    Rig.same("0x60BA", net.entry(0, 0x60BA, 0), 11);
    net.hand(0, -14, false);
    net.inputs(0, 0);
    rig.tick(1);
    Rig.same("it fell", net.entry(0, 0x60B9, 0), 7);
    Rig.same("0x60BB", net.entry(0, 0x60BB, 0), -3);
    net.hand(0, 10, false);
    net.inputs(0, 4);
    rig.tick(1);
    net.inputs(0, 0);
    rig.tick(1);
    Rig.same("only once: 0x60BA", net.entry(0, 0x60BA, 0), 11);
    Rig.same("only once: 0x60BB", net.entry(0, 0x60BB, 0), -3);
    rig.set(0, 0x60B8, 0, 0x13, 2);
    Rig.same("a write lets them be 0", net.entry(0, 0x60B9, 0), 1);
    for (int i = 0; i < 2; i++) {
      net.hand(0, 1, false);
      net.inputs(0, 4);
      rig.tick(1);
      net.inputs(0, 0);
      rig.tick(1);
      Rig.same("with bit 1 each time", net.entry(0, 0x60BA, 0), 8 + i);
    }
    Rig.same("without bit 5 not when it falls", net.entry(0, 0x60B9, 0), 3);
    rig.order(130, 0);
    Rig.same("order 130 lets it stay", net.entry(0, 0x60B9, 0), 3);
    net.inputs(0, 4);
    rig.order(129, 0);
    Rig.same("booting does not", net.entry(0, 0x60B9, 0), 0);
    Rig.same("nor 0x60BA", net.entry(0, 0x60BA, 0), 0);
    Rig.same("nor 0x60BB", net.entry(0, 0x60BB, 0), 0);
  }

  private static void wrongNumbers() {
    ServoNet net = new ServoNet(1);
    Rig.noIndex("hand of drive 4", () -> net.hand(4, 2000000, false));
    Rig.noIndex("hand of drive -1", () -> net.hand(-1, 0, false));
    Rig.noArgument("hand too far", () -> net.hand(0, 1000001, true));
    Rig.noArgument("hand too far back", () -> net.hand(0, -1000001, true));
    Rig.same("nothing moved", net.place(0, 2), 0);
    net.power(0, true);
    Rig.same("nor is it held", net.entry(0, 0x60FD, 0), 0);
    Rig.noIndex("inputs of drive 4", () -> net.inputs(4, -1));
    Rig.noArgument("inputs -1", () -> net.inputs(0, -1));
    Rig.noArgument("inputs 65536", () -> net.inputs(0, 65536));
    Rig.same("they stay", net.inputs(0, 0), 0);
    Rig.noIndex("place of drive 4", () -> net.place(4, 0));
    Rig.noIndex("place of drive -1", () -> net.place(-1, 0));
    Rig.noIndex("place 4", () -> net.place(0, 4));
    Rig.noIndex("place -1", () -> net.place(0, -1));
  }

  private static void switchesAtRest() {
    Rig rig = in(3);
    rig.net.inputs(0, 3);
    rig.tick(5);
    Rig.same("at rest they are no fault", rig.net.state(0, 2), 4);
    rig.net.inputs(0, 1);
    rig.set(0, 0x60FF, 0, 50, 4);
    rig.tick(5);
    Rig.same("nor the one behind", rig.net.state(0, 2), 4);
    Rig.isTrue("it moves", rig.net.place(0, 1) > 0);
  }

  private static void leavesOnlyOnce() {
    Rig rig = in(3);
    rig.set(0, 0x60FF, 0, 20, 4);
    rig.tick(5);
    word(rig, 7);
    rig.tick(3);
    Rig.same("it left", rig.net.state(0, 2), 3);
    word(rig, 15);
    Rig.same("back", rig.net.state(0, 2), 4);
    Rig.same("it goes in the same tick", rig.net.place(0, 1), 10000);
  }

  private static void nothingOfTheModeStays() {
    Rig rig = in(1);
    rig.set(0, 0x607A, 0, 3, 4);
    word(rig, 0x1F);
    word(rig, 0x0F);
    rig.set(0, 0x607A, 0, 9, 4);
    word(rig, 0x1F);
    rig.set(0, 0x605A, 0, 6, 2);
    word(rig, 0x0B);
    rig.tick(20);
    Rig.same("at rest", rig.net.place(0, 1), 0);
    long place = rig.net.place(0, 0);
    word(rig, 0x0F);
    rig.tick(100);
    at("no goal, none waits", rig, place, 0);
    rig.set(0, 0x607A, 0, 5, 4);
    word(rig, 0x5F);
    rig.tick(100);
    at("behind the demand, rounded down", rig, (Math.floorDiv(place, MILLION) + 5) * MILLION, 0);
    Rig.same("there", rig.net.entry(0, 0x6041, 0), 0x1437);
    word(rig, 0x0B);
    rig.tick(1);
    word(rig, 0x0F);
    word(rig, 0x1F);
    Rig.same("a goal where it stands, but not for long", rig.net.entry(0, 0x6041, 0) & 0x400, 0);
    Rig home = Rig.withDrives(1);
    home.set(0, 0x6098, 0, 17, 1);
    home.set(0, 0x6060, 0, 6, 1);
    home.set(0, 0x605A, 0, 6, 2);
    home.enable(0);
    word(home, 0x1F);
    home.tick(5);
    word(home, 0x1B);
    home.tick(20);
    word(home, 0x1F);
    home.tick(5);
    at("homing does not go on", home, home.net.place(0, 0), 0);
    Rig.same("TARGET", home.net.entry(0, 0x6041, 0), 0x437);
    word(home, 0x0F);
    home.set(0, 0x6098, 0, 0, 1);
    word(home, 0x1F);
    Rig.same("BIT 13", home.net.entry(0, 0x6041, 0), 0x2437);
    word(home, 0x1B);
    word(home, 0x1F);
    Rig.same("no BIT 13", home.net.entry(0, 0x6041, 0), 0x437);
  }

  /** Back in state 4 with a speed, in modes 0 and 1. */
  private static void withoutAGoalItBrakes() {
    for (int mode = 0; mode <= 1; mode++) {
      Rig rig = moving();
      rig.set(0, 0x605A, 0, 6, 2);
      rig.set(0, 0x6085, 0, 1000, 4);
      rig.set(0, 0x6060, 0, mode, 1);
      word(rig, 0x0B);
      Rig.same("the mode", rig.net.entry(0, 0x6061, 0), mode);
      Rig.same("braking", rig.net.place(0, 1), 299000);
      word(rig, 0x0F);
      Rig.same("state 4", rig.net.state(0, 2), 4);
      Rig.same("by 0x6084", rig.net.place(0, 1), 289000);
      rig.tick(30);
      Rig.same("to rest", rig.net.place(0, 1), 0);
    }
  }

  private static void boundsThatMeet() {
    Rig rig = Rig.withDrives(1);
    rig.set(0, 0x607D, 1, 4, 4);
    rig.set(0, 0x607D, 2, 4, 4);
    rig.enable(0);
    rig.set(0, 0x607A, 0, -100, 4);
    word(rig, 0x1F);
    rig.tick(100);
    at("the only place", rig, 4 * MILLION, 0);
    word(rig, 0);
    rig.set(0, 0x607D, 1, 5, 4);
    rig.enable(0);
    rig.set(0, 0x607A, 0, 20, 4);
    word(rig, 0x1F);
    rig.tick(100);
    at("sub 1 above sub 2: beyond both", rig, 20 * MILLION, 0);
  }

  private static void homingAgain() {
    Rig rig = Rig.withDrives(1);
    rig.set(0, 0x6060, 0, 6, 1);
    rig.enable(0);
    word(rig, 0x1F);
    Rig.same("homed", rig.net.entry(0, 0x6041, 0), 0x1437);
    word(rig, 0x0F);
    rig.set(0, 0x6098, 0, 18, 1);
    word(rig, 0x1F);
    Rig.same("no BIT 12", rig.net.entry(0, 0x6041, 0), 0x37);
    rig.tick(3);
    word(rig, 0x11F);
    Rig.same("it halts", rig.net.place(0, 1), 30000);
    word(rig, 0x1F);
    Rig.same("and goes on", rig.net.place(0, 1), 40000);
  }

  private static void homingWithOddSpeeds() {
    Rig rig = Rig.withDrives(1);
    rig.set(0, 0x607C, 0, -5, 4);
    rig.set(0, 0x607F, 0, 35, 4);
    rig.set(0, 0x6098, 0, 18, 1);
    rig.set(0, 0x6099, 2, 400, 4);
    rig.set(0, 0x6060, 0, 6, 1);
    rig.enable(0);
    word(rig, 0x1F);
    rig.tick(5);
    Rig.same("FAST", rig.net.place(0, 1), 35000);
    rig.net.inputs(0, 2);
    rig.tick(4);
    Rig.same("to rest, not beyond", rig.net.place(0, 1), 0);
    rig.tick(5);
    Rig.same("FAST the other way", rig.net.place(0, 1), -35000);
    rig.net.inputs(0, 0);
    rig.tick(1);
    Rig.same("phase 4", rig.net.place(0, 1), -25000);
    rig.net.inputs(0, 2);
    rig.tick(3);
    Rig.same("whatever the switch is then", rig.net.place(0, 1), 0);
    rig.tick(1);
    at("there", rig, -5 * MILLION, 0);
  }

  private static void bootsAtRest() {
    Rig rig = moving();
    rig.net.power(0, false);
    Rig.same("its demand without power", rig.net.place(0, 0), rig.net.place(0, 2));
    Rig.same("its speed", rig.net.place(0, 1), 0);
    rig.net.power(0, true);
    Rig.same("the speed", rig.net.place(0, 1), 0);
    Rig.same("how far it came", rig.net.place(0, 3), 0);
    Rig.same("0x606B", rig.net.entry(0, 0x606B, 0), 0);
    Rig.same("0x606C", rig.net.entry(0, 0x606C, 0), 0);
    Rig.same("state 1", rig.net.state(0, 2), 1);
    Rig other = moving();
    long place = other.net.place(0, 2);
    other.order(129, 0);
    Rig.same("by order 129 it does not coast", other.net.place(0, 2), place);
    at("at rest", other, place, 0);
    Rig probe = Rig.withDrives(1);
    probe.set(0, 0x60B8, 0, 0x30, 2);
    Rig.same("bit 0 of 0x60B9 is that of 0x60B8", probe.net.entry(0, 0x60B9, 0), 0);
  }

  private static void nearOnce() {
    Rig rig = in(1);
    rig.set(0, 0x6068, 0, 1, 2);
    rig.set(0, 0x607A, 0, 1, 4);
    word(rig, 0x1F);
    boolean target = false;
    for (int i = 0; i < 60 && !target; i++) {
      target = rig.net.place(0, 0) == MILLION && rig.net.place(0, 1) == 0;
      Rig.same("TARGET as soon as it stands", rig.net.entry(0, 0x6041, 0) & 0x400, target ? 0x400 : 0);
      rig.tick(1);
    }
    Rig.isTrue("it stands", target);
    rig.set(0, 0x6068, 0, 0, 2);
    Rig.same("0 is as 1", rig.net.entry(0, 0x6041, 0) & 0x400, 0x400);
  }
}
