/** Programs of steps: MODE -1 of section 8.3. */
public final class ProgramTest {
  private static final long MILLION = 1000000L;

  public static void main(String[] args) {
    oneStepBehindTheOther();
    dwells();
    stepsWhereItStands();
    rounds();
    roundsInRounds();
    placesBehind();
    cutAndFast();
    wrongSteps();
    anEmptyProgram();
    itEndsWithBit4();
    itHalts();
    itBeginsAnew();
    roundsBeginAnew();
    eachStepWaits();
    aSpeedIsLeft();
    Rig.end();
  }

  /** Steps: place, speed, dwell, AGAIN, FROM and whether it is behind. */
  private static Rig with(long[]... steps) {
    Rig rig = Rig.withDrives(1);
    load(rig, steps);
    rig.set(0, 0x6060, 0, -1, 1);
    rig.enable(0);
    Rig.same("none goes on: TARGET", rig.net.entry(0, 0x6041, 0), 0x437);
    return rig;
  }

  private static void load(Rig rig, long[]... steps) {
    rig.net.clear();
    for (long[] s : steps) {
      number(rig, s[0], 4);
      number(rig, s[1], 4);
      number(rig, s[2], 2);
      number(rig, s[3], 1);
      number(rig, s[4], 1);
    }
    rig.net.job(0, 0x2011, 0, false, true);
    rig.tick(30);
    Rig.same("the program is there", rig.net.told(0), 2);
    Rig.same("its bytes", rig.net.entry(0, 0x2011, 0), 12 * steps.length);
  }

  private static void number(Rig rig, long v, int bytes) {
    for (int i = 0; i < bytes; i++) {
      rig.net.put((int) (v >>> 8 * i) & 255);
    }
  }

  private static long[] step(long... s) {
    return s;
  }

  private static void word(Rig rig, int word) {
    rig.net.frame(0x601, false, 8, Rig.request(0x2B, 0x6040, 0, word));
    rig.net.tick(1);
  }

  private static boolean stands(Rig rig, long increments) {
    return rig.net.place(0, 0) == increments * MILLION && rig.net.place(0, 1) == 0;
  }

  /** Ticks go by till it stands at a place: how many. */
  private static int till(Rig rig, long increments) {
    for (int i = 0; i < 2000; i++) {
      if (stands(rig, increments)) {
        return i;
      }
      rig.net.tick(1);
    }
    Rig.same("it never came to " + increments, 0, 1);
    return -1;
  }

  private static void oneStepBehindTheOther() {
    Rig rig = with(step(30, 200, 0, 0, 0), step(-2, 100, 0, 0, 0), step(0, 500, 0, 0, 0));
    word(rig, 0x1F);
    Rig.same("it goes in the same tick", rig.net.place(0, 1), 10000);
    Rig.same("it goes on", rig.net.entry(0, 0x6041, 0), 0x37);
    rig.tick(19);
    Rig.same("its own speed", rig.net.place(0, 1), 200000);
    till(rig, 30);
    rig.tick(1);
    Rig.same("the next one goes in the tick in which it stood at first", rig.net.place(0, 1), -10000);
    rig.tick(15);
    Rig.same("its speed", rig.net.place(0, 1), -100000);
    till(rig, -2);
    till(rig, 0);
    Rig.same("BIT 12 not yet", rig.net.entry(0, 0x6041, 0), 0x37);
    rig.tick(1);
    Rig.same("behind the last one BIT 12 and TARGET", rig.net.entry(0, 0x6041, 0), 0x1437);
    rig.tick(50);
    Rig.same("it goes on no more", rig.net.place(0, 0), 0);
    word(rig, 0x0F);
    Rig.same("BIT 12 stays", rig.net.entry(0, 0x6041, 0), 0x1437);
    word(rig, 0x1F);
    Rig.same("till another one begins", rig.net.entry(0, 0x6041, 0), 0x37);
  }

  private static void dwells() {
    for (int dwell = 0; dwell < 4; dwell++) {
      Rig rig = with(step(1, 200, dwell, 0, 0), step(-1, 200, 0, 0, 0));
      word(rig, 0x1F);
      till(rig, 1);
      rig.tick(dwell);
      Rig.isTrue("it waits " + dwell, stands(rig, 1));
      rig.tick(1);
      Rig.same("then it goes", rig.net.place(0, 1), -10000);
    }
    Rig rig = with(step(0, 1, 65535, 0, 0));
    word(rig, 0x1F);
    rig.tick(1000);
    Rig.same("a long one", rig.net.entry(0, 0x6041, 0), 0x37);
  }

  /** A step that is where it stands is over in the tick in which it begins; one in a tick. */
  private static void stepsWhereItStands() {
    Rig rig = with(step(0, 1, 0, 0, 0), step(0, 1, 0, 0, 0), step(0, 1, 0, 0, 0));
    word(rig, 0x1F);
    Rig.same("one is over", rig.net.entry(0, 0x6041, 0), 0x37);
    rig.tick(1);
    Rig.same("two", rig.net.entry(0, 0x6041, 0), 0x37);
    rig.tick(1);
    Rig.same("all three", rig.net.entry(0, 0x6041, 0), 0x1437);
  }

  private static void rounds() {
    Rig rig = with(step(1, 500, 0, 0, 0), step(2, 500, 0, 2, 0), step(3, 500, 0, 0, 0));
    word(rig, 0x1F);
    for (int i = 0; i < 3; i++) {
      till(rig, 1);
      till(rig, 2);
    }
    till(rig, 3);
    rig.tick(1);
    Rig.same("twice more, then on", rig.net.entry(0, 0x6041, 0), 0x1437);
    Rig self = with(step(1, 500, 0, 3, 0x80));
    word(self, 0x1F);
    till(self, 4);
    self.tick(2);
    Rig.same("from itself, behind", self.net.entry(0, 0x6041, 0), 0x1437);
  }

  private static void roundsInRounds() {
    // The inner one: 2 times; the outer one: 1 time more. Each outer round begins its inner ones anew.
    Rig rig = with(step(1, 500, 0, 1, 0x80), step(1, 500, 0, 1, 0x80));
    word(rig, 0x1F);
    // Step 0 twice, step 1 once; again from step 0: twice, step 1 once.
    till(rig, 6);
    rig.tick(2);
    Rig.same("six steps", rig.net.entry(0, 0x6041, 0), 0x1437);
    Rig.same("at 6", rig.net.place(0, 0), 6 * MILLION);
  }

  private static void placesBehind() {
    Rig rig = with(step(-3, 500, 0, 0, 0x80), step(5, 500, 0, 0, 0x80));
    rig.net.tick(1);
    word(rig, 0x1F);
    till(rig, -3);
    till(rig, 2);
    rig.tick(2);
    Rig.same("behind the demand", rig.net.place(0, 0), 2 * MILLION);
  }

  private static void cutAndFast() {
    Rig rig = Rig.withDrives(1);
    rig.set(0, 0x607D, 1, -4, 4);
    rig.set(0, 0x607D, 2, 4, 4);
    rig.set(0, 0x607F, 0, 50, 4);
    load(rig, step(100, 0xFFFFFFFFL, 0, 0, 0), step(-1000, 0, 0, 0, 0));
    rig.set(0, 0x6060, 0, -1, 1);
    rig.enable(0);
    word(rig, 0x1F);
    rig.tick(20);
    Rig.same("without sign, FAST", rig.net.place(0, 1), 50000);
    till(rig, 4);
    rig.tick(10);
    Rig.same("at least 1", rig.net.place(0, 1), -1000);
    rig.set(0, 0x6083, 0, 7, 4);
    rig.set(0, 0x6084, 0, 7, 4);
    rig.tick(1);
    Rig.same("the same speed", rig.net.place(0, 1), -1000);
    word(rig, 0x0F);
    Rig.same("0x6084 as it is now", rig.net.place(0, 1), -993);
  }

  private static void wrongSteps() {
    Rig rig = with(step(1, 500, 0, 1, 1), step(2, 500, 0, 0, 0));
    word(rig, 0x1F);
    till(rig, 1);
    rig.tick(1);
    Rig.same("a step behind this one", rig.net.entry(0, 0x603F, 0), 0xFF01);
    Rig.same("0x1001", rig.net.entry(0, 0x1001, 0), 0x81);
    Rig.same("fault reaction", rig.net.state(0, 2), 6);
    Rig.isTrue("it stands", stands(rig, 1));
    rig.tick(1);
    Rig.same("then fault", rig.net.state(0, 2), 7);
    Rig none = with(step(1, 500, 0, 1, 15));
    word(none, 0x1F);
    till(none, 1);
    none.tick(1);
    Rig.same("no such step", none.net.entry(0, 0x603F, 0), 0xFF01);
    Rig unused = with(step(1, 500, 0, 0, 15));
    word(unused, 0x1F);
    till(unused, 1);
    unused.tick(1);
    Rig.same("AGAIN 0: it does not count", unused.net.entry(0, 0x6041, 0), 0x1437);
  }

  private static void anEmptyProgram() {
    Rig rig = with();
    word(rig, 0x1F);
    Rig.same("behind the last one at once", rig.net.entry(0, 0x6041, 0), 0x1437);
  }

  private static void itEndsWithBit4() {
    Rig rig = with(step(50, 500, 0, 0, 0), step(1, 500, 0, 0, 0));
    word(rig, 0x1F);
    rig.tick(19);
    word(rig, 0x0F);
    Rig.same("it brakes by 0x6084", rig.net.place(0, 1), 190000);
    Rig.same("without TARGET", rig.net.entry(0, 0x6041, 0), 0x37);
    rig.tick(19);
    Rig.same("at rest: TARGET, no BIT 12", rig.net.entry(0, 0x6041, 0), 0x437);
    word(rig, 0x1F);
    till(rig, 50);
    till(rig, 1);
  }

  private static void itHalts() {
    Rig rig = with(step(1, 500, 10, 0, 0), step(2, 500, 0, 0, 0));
    word(rig, 0x1F);
    rig.tick(5);
    word(rig, 0x11F);
    rig.tick(20);
    Rig.same("at rest", rig.net.place(0, 1), 0);
    Rig.same("it goes on all the same", rig.net.entry(0, 0x6041, 0), 0x37);
    word(rig, 0x1F);
    till(rig, 1);
    rig.tick(5);
    word(rig, 0x11F);
    rig.tick(50);
    Rig.isTrue("it does not wait while it halts", stands(rig, 1));
    word(rig, 0x1F);
    rig.tick(4);
    Rig.isTrue("five and five", stands(rig, 1));
    rig.tick(1);
    Rig.same("then it goes", rig.net.place(0, 1), 10000);
  }

  private static void itBeginsAnew() {
    Rig rig = with(step(1, 500, 0, 0, 0));
    word(rig, 0x1F);
    till(rig, 1);
    rig.tick(1);
    Rig.same("done", rig.net.entry(0, 0x6041, 0), 0x1437);
    word(rig, 0x17);
    word(rig, 0x1F);
    rig.tick(1);
    Rig.same("state 4 begins anew", rig.net.entry(0, 0x6041, 0), 0x437);
  }

  private static void roundsBeginAnew() {
    Rig rig = with(step(1, 500, 0, 2, 0x80), step(0, 500, 0, 0, 0));
    word(rig, 0x1F);
    till(rig, 1);
    till(rig, 2);
    rig.tick(1);
    word(rig, 0x0F);
    rig.tick(30);
    long place = Math.floorDiv(rig.net.place(0, 0), MILLION);
    word(rig, 0x1F);
    till(rig, place + 1);
    till(rig, place + 2);
    till(rig, place + 3);
    till(rig, 0);
  }

  private static void eachStepWaits() {
    Rig rig = with(step(1, 500, 6, 0, 0), step(2, 500, 4, 0, 0), step(3, 500, 0, 0, 0));
    word(rig, 0x1F);
    till(rig, 1);
    rig.tick(6);
    Rig.isTrue("six", stands(rig, 1));
    till(rig, 2);
    rig.tick(4);
    Rig.isTrue("four more", stands(rig, 2));
    rig.tick(1);
    Rig.isTrue("then on", !stands(rig, 2));
  }

  /** A program that begins while it still moves: the place behind is behind the demand. */
  private static void aSpeedIsLeft() {
    Rig rig = with(step(100, 500, 0, 0, 0x80));
    word(rig, 0x1F);
    rig.tick(20);
    word(rig, 0x0F);
    long demand = Math.floorDiv(rig.net.place(0, 0), MILLION);
    word(rig, 0x1F);
    Rig.isTrue("it moves still", rig.net.place(0, 1) > 0);
    till(rig, demand + 100);
  }
}
