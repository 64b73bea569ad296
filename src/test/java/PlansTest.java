import java.util.List;

/** What the master hears, and its plans: the end of section 9, and promises 20 to 23. */
public final class PlansTest {
  private static final int AWAITS = 1;
  private static final int ASKS = 2;
  private static final int SETS = 3;
  private static final int WATCHES = 4;
  private static final int GAVE_UP = 5;

  public static void main(String[] args) {
    aPlanThatGoesWell();
    settingsOfAllWidths();
    anotherSerial();
    aSettingThatFails();
    noAnswer();
    itGivesUp();
    watching();
    watchingWithoutWatch();
    bootsAnew();
    byDrives();
    aJobBefore();
    aTalkEndsByPlans();
    aTalkBlocksJobs();
    whenSettingsCanBeAdded();
    whatIsHeard();
    wrongNumbers();
    lateTalks();
    aBootFrameEndsATalk();
    toldAnew();
    framesThatAreNotHeard();
    framesThatAreNoAnswers();
    Rig.end();
  }

  private static void stage(String what, Rig rig, int drive, int due) {
    Rig.same(what + ": stage", rig.net.planned(drive, 0), due);
  }

  private static void aPlanThatGoesWell() {
    Rig rig = new Rig(8);
    ServoNet net = rig.net;
    net.plan(1, 1001, 0);
    Rig.same("a setting", net.setting(1, 0x6081, 0, 123, 4), 1);
    Rig.same("another", net.setting(1, 0x6060, 0, 3, 1), 2);
    stage("at first", rig, 1, AWAITS);
    Rig.same("how many settings", net.planned(1, 2), 2);
    net.power(1, true);
    net.tick(1);
    stage("the boot frame came", rig, 1, ASKS);
    Rig.same("its talk goes on", net.planned(1, 4), 1);
    net.tick(1);
    Rig.same("it asks for the serial number", rig.framesOf(0x602, 0).get(0), Rig.request(0x40, 0x1018, 4, 0));
    net.tick(1);
    stage("the answer came", rig, 1, SETS);
    Rig.same("the next talk", net.planned(1, 4), 1);
    net.tick(1);
    Rig.same("the first setting", rig.framesOf(0x602, 0).get(1), Rig.request(0x23, 0x6081, 0, 123));
    Rig.same("none done", net.planned(1, 3), 0);
    net.tick(1);
    Rig.same("one done", net.planned(1, 3), 1);
    net.tick(2);
    Rig.same("two done", net.planned(1, 3), 2);
    Rig.same("no talk", net.planned(1, 4), 0);
    stage("all done", rig, 1, WATCHES);
    net.tick(1);
    Rig.same("the drive is told to operate", net.state(1, 1), Rig.OPERATIONAL);
    Rig.same("the last request", rig.framesOf(0x602, 0).get(2), Rig.request(0x2F, 0x6060, 0, 3));
    Rig.same("the order", rig.framesOf(0, 0).get(0), 0x201);
    Rig.same("0x6081", net.entry(1, 0x6081, 0), 123);
    Rig.same("0x6060", net.entry(1, 0x6060, 0), 3);
    rig.tick(1000);
    stage("it watches nothing", rig, 1, WATCHES);
    Rig.same("no requests of a job", net.told(2), 0);
  }

  private static void settingsOfAllWidths() {
    Rig rig = new Rig(8);
    ServoNet net = rig.net;
    net.plan(0, 1000, 0);
    net.setting(0, 0x6060, 0, -1, 1);
    net.setting(0, 0x6066, 0, 0x12345678, 2);
    net.setting(0, 0x60FF, 0, -5, 4);
    net.setting(0, 0x60FE, 1, Integer.MIN_VALUE, 4);
    net.power(0, true);
    rig.tick(20);
    Rig.same("the lowest byte", net.entry(0, 0x6060, 0), -1);
    Rig.same("the lowest two", net.entry(0, 0x6066, 0), 0x5678);
    Rig.same("all four", net.entry(0, 0x60FF, 0), -5);
    Rig.same("of a sub", net.entry(0, 0x60FE, 1), 0x80000000L);
    Rig.same("a request's bytes", rig.framesOf(0x601, 0).get(2), Rig.request(0x2B, 0x6066, 0, 0x5678));
    Rig.same("sixteen at most", fill(net, 0), 16);
    Rig.notNow("one more", () -> net.setting(0, 0x6060, 0, 1, 1));
    Rig.same("sixteen", net.planned(0, 2), 16);
  }

  private static int fill(ServoNet net, int drive) {
    int n = 0;
    while (net.planned(drive, 2) < 16) {
      n = net.setting(drive, 0x6060, 0, 1, 1);
    }
    return n;
  }

  private static void anotherSerial() {
    Rig rig = new Rig(8);
    ServoNet net = rig.net;
    net.plan(0, 1001, 0);
    net.power(0, true);
    net.tick(3);
    stage("another number", rig, 0, AWAITS);
    Rig.same("a try", net.planned(0, 1), 1);
    Rig.same("no talk", net.planned(0, 4), 0);
    net.tick(1);
    Rig.same("the drive is told to boot", rig.framesOf(0, 0).get(0), 0x181);
    net.tick(1);
    stage("it boots", rig, 0, ASKS);
    rig.tick(20);
    stage("three tries", rig, 0, GAVE_UP);
    Rig.same("three", net.planned(0, 1), 3);
    Rig.same("no order behind the third", rig.framesOf(0, 0).size(), 2);
    rig.order(129, 0);
    rig.tick(10);
    stage("booting does not help", rig, 0, GAVE_UP);
    net.plan(0, 1000, 0);
    Rig.same("told anew: no tries", net.planned(0, 1), 0);
    rig.order(129, 0);
    rig.tick(10);
    stage("but a plan told anew", rig, 0, WATCHES);
  }

  private static void aSettingThatFails() {
    Rig rig = new Rig(8);
    ServoNet net = rig.net;
    net.plan(0, 1000, 0);
    net.setting(0, 0x6081, 0, 55, 4);
    net.setting(0, 0x6060, 0, 2, 1);
    net.power(0, true);
    rig.tick(7);
    stage("its code is no answer", rig, 0, AWAITS);
    Rig.same("one was done", net.planned(0, 3), 1);
    Rig.same("a try", net.planned(0, 1), 1);
    net.tick(2);
    Rig.same("none since it was at 2 last", net.planned(0, 3), 0);
    rig.tick(40);
    stage("then it gives up", rig, 0, GAVE_UP);
  }

  private static void noAnswer() {
    Rig rig = new Rig(8);
    ServoNet net = rig.net;
    net.plan(0, 1000, 0);
    net.power(0, true);
    net.tick(1);
    net.power(0, false);
    rig.tick(300);
    stage("300 ticks", rig, 0, ASKS);
    net.tick(1);
    stage("301", rig, 0, AWAITS);
    Rig.same("a try", net.planned(0, 1), 1);
    net.tick(1);
    Rig.same("an order to boot", rig.framesOf(0, 0).get(0), 0x181);
  }

  private static void itGivesUp() {
    Rig rig = new Rig(8);
    ServoNet net = rig.net;
    net.plan(0, 1000, 0);
    for (int i = 1; i <= 3; i++) {
      net.power(0, true);
      net.tick(1);
      net.power(0, false);
      rig.tick(301);
      Rig.same("tries", net.planned(0, 1), i);
      stage("behind try " + i, rig, 0, i < 3 ? AWAITS : GAVE_UP);
      Rig.same("no talk", net.planned(0, 4), 0);
    }
  }

  private static void watching() {
    Rig rig = new Rig(8);
    ServoNet net = rig.net;
    net.plan(0, 1000, 20);
    net.setting(0, 0x1017, 0, 10, 2);
    net.power(0, true);
    rig.tick(100);
    stage("it beats", rig, 0, WATCHES);
    net.power(0, false);
    int last = rig.lastTickOf(0x701);
    rig.tick(last + 21 - rig.clock());
    stage("20 ticks", rig, 0, WATCHES);
    rig.tick(1);
    stage("21", rig, 0, AWAITS);
    Rig.same("a try", net.planned(0, 1), 1);
    net.power(0, true);
    rig.tick(20);
    stage("it boots", rig, 0, WATCHES);
    Rig.same("no tries then", net.planned(0, 1), 0);
  }

  /** Without heartbeats it is watched since it came to 4. */
  private static void watchingWithoutWatch() {
    Rig rig = new Rig(8);
    ServoNet net = rig.net;
    net.plan(0, 1000, 5);
    net.power(0, true);
    int came = 0;
    for (int i = 0; i < 20 && net.planned(0, 0) != WATCHES; i++) {
      net.tick(1);
      came = rig.clock() - 1;
    }
    rig.tick(5);
    stage("five ticks", rig, 0, WATCHES);
    Rig.same("the clock", rig.clock() - 1, came + 5);
    rig.tick(1);
    stage("six", rig, 0, AWAITS);
  }

  private static void bootsAnew() {
    Rig rig = new Rig(8);
    ServoNet net = rig.net;
    net.plan(0, 1000, 0);
    net.setting(0, 0x6081, 0, 77, 4);
    net.power(0, true);
    net.tick(3);
    stage("it sets", rig, 0, SETS);
    net.power(0, false);
    net.power(0, true);
    net.tick(1);
    stage("it boots", rig, 0, ASKS);
    Rig.same("the talk began anew", net.planned(0, 4), 1);
    rig.tick(20);
    stage("well", rig, 0, WATCHES);
    net.frame(0x701, true, 1, 0);
    rig.tick(3);
    stage("guarding is no boot frame", rig, 0, WATCHES);
    rig.order(129, 0);
    rig.tick(1);
    stage("from 4, too", rig, 0, ASKS);
    Rig.same("none done", net.planned(0, 3), 0);
  }

  private static void byDrives() {
    Rig rig = new Rig(8);
    ServoNet net = rig.net;
    for (int k = 3; k >= 0; k--) {
      net.plan(k, 1000 + k, 0);
      net.setting(k, 0x6081, 0, 10 + k, 4);
      net.power(k, true);
    }
    net.tick(1);
    for (int k = 0; k < 4; k++) {
      stage("all ask", rig, k, ASKS);
      Rig.same("one talks", net.planned(k, 4), k == 0 ? 1 : 0);
    }
    net.tick(2);
    stage("the first one", rig, 0, SETS);
    Rig.same("goes on", net.planned(0, 4), 1);
    net.tick(2);
    stage("it has no setting left", rig, 0, WATCHES);
    Rig.same("no other begins in this tick", net.planned(1, 4), 0);
    net.tick(1);
    Rig.same("but in the next one", net.planned(1, 4), 1);
    rig.tick(30);
    for (int k = 0; k < 4; k++) {
      stage("all watch", rig, k, WATCHES);
      Rig.same("all are set", net.entry(k, 0x6081, 0), 10 + k);
      Rig.same("all operate", net.state(k, 1), Rig.OPERATIONAL);
    }
  }

  private static void aJobBefore() {
    Rig rig = new Rig(8);
    ServoNet net = rig.net;
    net.plan(0, 1000, 0);
    net.power(0, true);
    net.job(0, 0x1008, 0, true, false);
    net.tick(1);
    stage("it would ask", rig, 0, ASKS);
    Rig.same("but a job runs", net.planned(0, 4), 0);
    rig.tick(20);
    Rig.same("the job is well", net.told(0), 2);
    stage("then it does", rig, 0, WATCHES);
    Rig late = new Rig(8);
    late.net.plan(1, 1001, 0);
    late.net.job(0, 0x1000, 0, true, false);
    late.net.power(1, true);
    late.tick(301);
    Rig.same("it waits for the job's patience", late.net.planned(1, 4), 0);
    late.tick(1);
    Rig.same("aborted", late.net.told(0), 3);
    Rig.same("and begins in the same work", late.net.planned(1, 4), 1);
  }

  private static void aTalkEndsByPlans() {
    Rig rig = new Rig(8);
    ServoNet net = rig.net;
    net.plan(0, 1000, 0);
    net.setting(0, 0x6081, 0, 5, 4);
    net.power(0, true);
    net.tick(1);
    Rig.same("a talk", net.planned(0, 4), 1);
    net.plan(1, 7, 0);
    Rig.same("another drive's plan lets it be", net.planned(0, 4), 1);
    net.plan(0, 2000, 9);
    Rig.same("told anew it ends", net.planned(0, 4), 0);
    stage("at 1", rig, 0, AWAITS);
    Rig.same("without settings", net.planned(0, 2), 0);
    net.job(0, 0x1001, 0, true, false);
    rig.tick(5);
    Rig.same("the late answer is none to a job", net.told(1), 0x05040001);
    stage("nor to the plan", rig, 0, AWAITS);
  }

  private static void aTalkBlocksJobs() {
    Rig rig = new Rig(8);
    ServoNet net = rig.net;
    net.plan(0, 1000, 0);
    net.power(0, true);
    net.tick(1);
    Rig.notNow("a job", () -> net.job(2, 0x1000, 0, true, false));
    Rig.noArgument("a wrong index first", () -> net.job(2, 0x1000, 256, true, false));
    Rig.same("no job", net.told(0), 0);
    Rig.same("put is fine", net.put(1), 1);
    rig.tick(10);
    net.job(2, 0x1000, 0, true, false);
    Rig.same("a job", net.told(0), 1);
  }

  private static void whenSettingsCanBeAdded() {
    Rig rig = new Rig(8);
    ServoNet net = rig.net;
    Rig.notNow("no plan", () -> net.setting(0, 0x6081, 0, 1, 4));
    net.plan(0, 1000, 0);
    net.setting(0, 0x6081, 0, 1, 4);
    net.power(0, true);
    net.tick(1);
    Rig.same("at 2", net.setting(0, 0x6081, 0, 2, 4), 2);
    net.tick(2);
    stage("at 3", rig, 0, SETS);
    Rig.notNow("at 3", () -> net.setting(0, 0x6081, 0, 3, 4));
    Rig.noArgument("at 3 with a wrong index", () -> net.setting(0, 65536, 0, 3, 4));
    rig.tick(20);
    stage("at 4", rig, 0, WATCHES);
    Rig.same("at 4 it can", net.setting(0, 0x6081, 0, 4, 4), 3);
    rig.tick(20);
    Rig.same("but is not done", net.planned(0, 3), 2);
    Rig.same("the entry", net.entry(0, 0x6081, 0), 2);
    rig.order(129, 0);
    rig.tick(20);
    Rig.same("but the next time", net.entry(0, 0x6081, 0), 4);
  }

  private static void whatIsHeard() {
    Rig rig = new Rig(8);
    ServoNet net = rig.net;
    net.power(2, true);
    Rig.same("nothing yet", net.heard(2, 0), -1);
    net.tick(1);
    Rig.same("its boot frame", net.heard(2, 0), 0);
    rig.set(2, 0x1017, 0, 1, 2);
    rig.tick(2);
    Rig.same("its state", net.heard(2, 0), 127);
    Rig.same("no other", net.heard(1, 0), -1);
    Rig.same("no emergency", net.heard(2, 1), -1);
    // Process data can be heard as if they were an emergency of drive 0.
    rig.set(2, 0x1800, 1, 0x80000183L, 4);
    rig.set(2, 0x1A00, 0, 0, 1);
    rig.set(2, 0x1A00, 1, 0x60410010L, 4);
    rig.set(2, 0x1A00, 2, 0x60640020L, 4);
    rig.set(2, 0x1A00, 3, 0x60B90010L, 4);
    rig.set(2, 0x1A00, 0, 3, 1);
    rig.set(2, 0x1800, 1, 0x81, 4);
    rig.operate(2);
    rig.tick(2);
    Rig.same("length 8 is one", net.heard(0, 1), 0x240);
    List<Long> sent = rig.framesOf(0x81, 0);
    Rig.same("as it was sent", sent.get(0), 0x240);
  }

  private static void wrongNumbers() {
    ServoNet net = new ServoNet(1);
    Rig.noIndex("plan of drive 4", () -> net.plan(4, 0, 2000));
    Rig.noIndex("plan of drive -1", () -> net.plan(-1, 0, 0));
    Rig.noArgument("watch -1", () -> net.plan(0, 0, -1));
    Rig.noArgument("watch 1001", () -> net.plan(0, 0, 1001));
    Rig.same("no plan", net.planned(0, 0), 0);
    net.plan(0, -1, 1000);
    Rig.same("watch 1000", net.planned(0, 0), 1);
    int[][] wrong = {{-1, 0, 1}, {65536, 0, 1}, {0, -1, 1}, {0, 256, 1}, {0, 0, 0}, {0, 0, 3}, {0, 0, 5}, {0, 0, -4}};
    for (int[] w : wrong) {
      Rig.noArgument("setting", () -> net.setting(0, w[0], w[1], 0, w[2]));
      Rig.noArgument("setting without a plan", () -> net.setting(1, w[0], w[1], 0, w[2]));
      Rig.noIndex("setting of drive 4", () -> net.setting(4, w[0], w[1], 0, w[2]));
    }
    Rig.same("none was added", net.planned(0, 2), 0);
    Rig.same("the bounds are fine", net.setting(0, 65535, 255, 0, 2), 1);
    Rig.noIndex("planned of drive 4", () -> net.planned(4, 0));
    Rig.noIndex("planned of drive -1", () -> net.planned(-1, 0));
    Rig.noIndex("planned 5", () -> net.planned(0, 5));
    Rig.noIndex("planned -1", () -> net.planned(0, -1));
  }

  private static void lateTalks() {
    Rig rig = new Rig(8);
    rig.tick(700);
    rig.net.plan(0, 1000, 0);
    rig.net.power(0, true);
    rig.tick(10);
    stage("at a late hour", rig, 0, WATCHES);
    Rig.same("no order but the one", rig.framesOf(0, 0).size(), 1);
  }

  private static void aBootFrameEndsATalk() {
    Rig rig = new Rig(8);
    rig.net.plan(0, 1000, 0);
    rig.net.power(0, true);
    rig.net.tick(2);
    Rig.same("it was asked", rig.framesOf(0x601, 0).size(), 1);
    rig.net.power(0, false);
    rig.net.power(0, true);
    rig.net.tick(1);
    Rig.same("a talk", rig.net.planned(0, 4), 1);
    rig.tick(10);
    stage("it was asked again", rig, 0, WATCHES);
    Rig.same("no try failed", rig.framesOf(0, 0).size(), 1);
  }

  private static void toldAnew() {
    Rig rig = new Rig(8);
    rig.net.plan(0, 1000, 0);
    rig.net.setting(0, 0x6081, 0, 1, 4);
    rig.net.power(0, true);
    rig.tick(20);
    Rig.same("one is done", rig.net.planned(0, 3), 1);
    rig.net.plan(0, 1000, 0);
    Rig.same("none is done", rig.net.planned(0, 3), 0);
    Rig.same("there is none", rig.net.planned(0, 2), 0);
    stage("it awaits", rig, 0, AWAITS);
  }

  /** Process data of drive 3 with an ID and a map. */
  private static Rig telling(int id, long... rows) {
    Rig rig = new Rig(8);
    rig.net.power(3, true);
    rig.tick(2);
    rig.set(3, 0x1800, 1, 0x80000184L, 4);
    rig.set(3, 0x1A00, 0, 0, 1);
    for (int i = 0; i < rows.length; i++) {
      rig.set(3, 0x1A00, i + 1, rows[i], 4);
    }
    rig.set(3, 0x1A00, 0, rows.length, 1);
    rig.set(3, 0x1800, 1, id, 4);
    rig.operate(3);
    rig.tick(2);
    Rig.same("it was sent", rig.framesOf(id, 0).size(), 1);
    return rig;
  }

  private static void framesThatAreNotHeard() {
    int[] ids = {0x700, 0x701, 0x702, 0x705, 0x77F, 0x781, 0x601, 0x80, 0x85, 0x81, 0x580, 0x585, 0x581};
    for (int id : ids) {
      Rig rig = telling(id, 0x60610008L);
      for (int k = 0; k < 3; k++) {
        Rig.same("one byte with " + id, rig.net.heard(k, 0), id == 0x701 + k ? 1 : -1);
        Rig.same("no emergency with " + id, rig.net.heard(k, 1), -1);
      }
      rig = telling(id, 0x60640020L, 0x60FD0020L);
      for (int k = 0; k < 3; k++) {
        Rig.same("eight bytes with " + id, rig.net.heard(k, 0), -1);
        Rig.same("an emergency with " + id, rig.net.heard(k, 1), id == 0x81 + k ? 0 : -1);
      }
    }
  }

  private static void framesThatAreNoAnswers() {
    int[] ids = {0x481, 0x501, 0x580, 0x582, 0x601, 0x701};
    for (int id : ids) {
      Rig rig = telling(id, 0x60640020L, 0x60FD0020L);
      rig.net.job(0, 0x1000, 0, true, false);
      rig.net.hand(3, 1, false);
      rig.tick(3);
      Rig.same("eight bytes with " + id, rig.net.told(0), 1);
    }
    Rig shorter = telling(0x581, 0x60640020L);
    shorter.net.job(0, 0x1000, 0, true, false);
    shorter.net.hand(3, 1, false);
    shorter.tick(3);
    Rig.same("four bytes are no answer", shorter.net.told(0), 1);
    Rig right = telling(0x581, 0x60640020L, 0x60FD0020L);
    right.net.job(0, 0x1000, 0, true, false);
    right.net.hand(3, 1, false);
    right.tick(3);
    Rig.same("eight are", right.net.told(1), 0x05040001);
  }
}
