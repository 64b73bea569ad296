import java.util.List;

/** Network orders, heartbeats, guarding and emergencies: sections 3 and 5, and promises 3 and 10. */
public final class NetworkTest {
  public static void main(String[] args) {
    powerComesAndGoes();
    orders();
    whatIsNoOrder();
    bootsByOrder129();
    bootsByOrder130();
    order129CutsTheRow();
    heartbeats();
    heartbeatsInEveryState();
    guarding();
    awaitedHeartbeats();
    awaitedTwice();
    lossActions();
    emergencies();
    emergenciesRest();
    theHistory();
    eightWait();
    stoppedDrivesWait();
    wrongNumbers();
    bootsWithoutEmergencies();
    bootsWithWhatIsKept();
    emergenciesBehindBooting();
    resetsFaultsAlone();
    Rig.end();
  }

  private static void powerComesAndGoes() {
    Rig rig = new Rig(8);
    ServoNet net = rig.net;
    Rig.isTrue("no other thing", !net.power(3, false));
    Rig.isTrue("another thing", net.power(3, true));
    Rig.isTrue("no other thing again", !net.power(3, true));
    Rig.same("it boots at once", net.station(3, 3), 1);
    Rig.same("has power", net.state(3, 0), 1);
    Rig.same("in PRE", net.state(3, 1), Rig.PRE);
    Rig.same("power state 1", net.state(3, 2), 1);
    Rig.same("0x6061 is 0 up to the first part F", net.entry(3, 0x6061, 0), 0);
    net.tick(1);
    Rig.same("0x6061 then", net.entry(3, 0x6061, 0), 1);
    Rig.same("the boot frame's ID", net.logged(0, 0), 0x704);
    Rig.same("its length", net.logged(0, 2), 1);
    Rig.same("its byte", net.logged(0, 3), 0);
    rig.ask(3, Rig.request(0x40, 0x1008, 0, 0));
    rig.set(3, 0x6081, 0, 7, 4);
    rig.ask(3, Rig.request(0x40, 0x1008, 0, 0));
    net.disturb(3, 9);
    net.frame(0x704, true, 0, 0);
    net.tick(1);
    Rig.same("a send count", net.station(3, 3), 1);
    Rig.isTrue("it goes", net.power(3, false));
    for (int what = 0; what < 5; what++) {
      Rig.same("station " + what, net.station(3, what), 0);
    }
    for (int what : new int[] {0, 1, 2, 3, 4, 5, 7, 8}) {
      Rig.same("state " + what, net.state(3, what), 0);
    }
    net.power(3, true);
    Rig.same("no transfer", net.state(3, 3), 0);
    Rig.same("the entries have their defaults", net.entry(3, 0x6081, 0), 1000);
  }

  private static void orders() {
    Rig rig = Rig.withDrives(3);
    ServoNet net = rig.net;
    rig.order(1, 2);
    Rig.same("one", net.state(1, 1), Rig.OPERATIONAL);
    Rig.same("not the other", net.state(0, 1), Rig.PRE);
    rig.order(2, 0);
    for (int k = 0; k < 3; k++) {
      Rig.same("all stopped", net.state(k, 1), Rig.STOPPED);
    }
    rig.order(1, 0);
    rig.order(128, 3);
    Rig.same("back in PRE", net.state(2, 1), Rig.PRE);
    Rig.same("not the other one", net.state(1, 1), Rig.OPERATIONAL);
    Rig.same("0x0200 of the status", net.entry(1, 0x6041, 0), 0x0240);
    Rig.same("none of it", net.entry(2, 0x6041, 0), 0x0040);
  }

  private static void whatIsNoOrder() {
    Rig rig = Rig.withDrives(1);
    ServoNet net = rig.net;
    net.frame(0, true, 2, 0);
    net.frame(0, false, 1, 1);
    net.frame(0, false, 3, 1);
    net.frame(0, false, 2, 1 | 2 << 8);
    net.frame(0, false, 2, 3);
    net.frame(0, false, 2, 0);
    net.frame(0, false, 2, 127);
    net.frame(0, false, 2, 131);
    rig.tick(2);
    Rig.same("none of them", net.state(0, 1), Rig.PRE);
    Rig.same("no boot", rig.framesOf(0x701, 0).size(), 1);
  }

  private static void bootsByOrder129() {
    Rig rig = Rig.withDrives(1);
    ServoNet net = rig.net;
    rig.operate(0);
    rig.set(0, 0x6081, 0, 7, 4);
    rig.set(0, 0x1017, 0, 50, 2);
    rig.enable(0);
    net.inputs(0, 6);
    net.hand(0, 100, false);
    rig.ask(0, Rig.request(0x40, 0x1008, 0, 0));
    int before = net.count(1);
    rig.order(129, 0);
    Rig.same("PRE", net.state(0, 1), Rig.PRE);
    Rig.same("power state 1", net.state(0, 2), 1);
    Rig.same("no transfer", net.state(0, 3), 0);
    Rig.same("0x6081", net.entry(0, 0x6081, 0), 1000);
    Rig.same("0x1017", net.entry(0, 0x1017, 0), 0);
    Rig.same("the control word", net.entry(0, 0x6040, 0), 0);
    Rig.same("the inputs stay", net.entry(0, 0x60FD, 0), 6);
    Rig.same("the demand is where the shaft is", net.place(0, 0), net.place(0, 2));
    Rig.same("the trace begins anew in the same work", net.entry(0, 0x2010, 0), 4);
    Rig.same("the mode is there in the same work", net.entry(0, 0x6061, 0), 1);
    rig.tick(1);
    Rig.same("its boot frame", rig.framesOf(0x701, before).get(0), 0);
    Rig.same("the master hears it", net.heard(0, 0), 0);
  }

  private static void bootsByOrder130() {
    Rig rig = Rig.withDrives(1);
    ServoNet net = rig.net;
    rig.operate(0);
    rig.set(0, 0x6081, 0, 7, 4);
    rig.set(0, 0x1017, 0, 50, 2);
    rig.set(0, 0x1015, 0, 100, 2);
    rig.enable(0);
    rig.set(0, 0x607A, 0, 50000, 4);
    rig.control(0, 0x1F);
    rig.tick(10);
    rig.ask(0, Rig.request(0x40, 0x1008, 0, 0));
    net.hand(0, 0, true);
    long trace = net.entry(0, 0x2010, 0);
    long demand = net.place(0, 0);
    long speed = net.place(0, 1);
    net.disturb(0, 5);
    int before = net.count(1);
    rig.order(130, 1);
    Rig.same("PRE", net.state(0, 1), Rig.PRE);
    Rig.same("power state 4", net.state(0, 2), 4);
    Rig.same("no transfer", net.state(0, 3), 0);
    Rig.same("not disturbed", net.station(0, 4), 0);
    Rig.same("0x6081 stays", net.entry(0, 0x6081, 0), 7);
    Rig.same("the control word stays", net.entry(0, 0x6040, 0), 0x1F);
    Rig.same("0x1017 has its default", net.entry(0, 0x1017, 0), 0);
    Rig.same("the demand moves on", net.place(0, 0), demand + speed);
    Rig.same("the trace stays", net.entry(0, 0x2010, 0), trace + 4);
    Rig.same("the goal stays taken, BIT 12", net.entry(0, 0x6041, 0), 0x1037);
    rig.tick(1);
    Rig.same("its boot frame", rig.framesOf(0x701, before).get(0), 0);
    faultsStayBehind130();
  }

  private static void faultsStayBehind130() {
    Rig rig = Rig.withDrives(1);
    ServoNet net = rig.net;
    rig.set(0, 0x1015, 0, 1000, 2);
    rig.set(0, 0x6065, 0, 1, 4);
    rig.set(0, 0x6066, 0, 0, 2);
    rig.enable(0);
    net.hand(0, 50, true);
    rig.tick(1);
    Rig.same("0x8611", net.entry(0, 0x603F, 0), 0x8611);
    rig.tick(3);
    Rig.same("its emergency was sent", net.heard(0, 1), 0x8611);
    rig.control(0, 0);
    rig.control(0, 0x80);
    Rig.same("reset", net.state(0, 2), 1);
    Rig.same("an emergency with 0 waits", net.state(0, 8), 1);
    rig.control(0, 0);
    rig.enable(0);
    net.hand(0, 50, true);
    rig.tick(2);
    Rig.same("two wait", net.state(0, 8), 2);
    Rig.same("one is active", net.state(0, 7), 1);
    rig.order(130, 0);
    Rig.same("none wait", net.state(0, 8), 0);
    Rig.same("one is active still", net.state(0, 7), 1);
    Rig.same("0x1001", net.entry(0, 0x1001, 0), 0x21);
    Rig.same("0x603F", net.entry(0, 0x603F, 0), 0x8611);
    Rig.same("0x1003 has its default", net.entry(0, 0x1003, 0), 0);
    Rig.same("its subs, too", net.entry(0, 0x1003, 1), 0);
  }

  /** Frames behind the order in the row are gone. */
  private static void order129CutsTheRow() {
    Rig rig = Rig.withDrives(1);
    ServoNet net = rig.net;
    net.frame(0, false, 2, 129);
    net.frame(0, false, 2, 1);
    net.frame(0x601, false, 8, Rig.request(0x40, 0x1001, 0, 0));
    int before = net.count(1);
    rig.tick(3);
    Rig.same("no other order", net.state(0, 1), Rig.PRE);
    Rig.same("no request", rig.framesOf(0x581, before).size(), 0);
  }

  private static void heartbeats() {
    Rig rig = Rig.withDrives(1);
    int before = rig.net.count(1);
    rig.net.frame(0x601, false, 8, Rig.request(0x2B, 0x1017, 0, 5));
    int written = rig.clock();
    rig.tick(24);
    int[] ticks = {written + 1, written + 6, written + 11, written + 16, written + 21};
    int at = 0;
    for (int i = before; i < rig.net.count(1); i++) {
      if (rig.net.logged(i, 0) == 0x701) {
        Rig.same("a heartbeat's tick", rig.net.logged(i, 5), at < 5 ? ticks[at] : -1);
        Rig.same("its byte", rig.net.logged(i, 3), Rig.PRE);
        Rig.same("its length", rig.net.logged(i, 2), 1);
        at++;
      }
    }
    Rig.same("five of them", at, 5);
    before = rig.net.count(1);
    rig.set(0, 0x1017, 0, 5, 2);
    Rig.same("written again it begins anew", rig.framesOf(0x701, before).size(), 1);
    rig.set(0, 0x1017, 0, 0, 2);
    before = rig.net.count(1);
    rig.tick(20);
    Rig.same("0: none", rig.framesOf(0x701, before).size(), 0);
  }

  private static void heartbeatsInEveryState() {
    Rig rig = Rig.withDrives(1);
    rig.set(0, 0x1017, 0, 1, 2);
    int[] orders = {1, 2, 128};
    int[] states = {5, 4, 127};
    for (int i = 0; i < 3; i++) {
      rig.order(orders[i], 0);
      rig.tick(2);
      Rig.same("the master hears state " + states[i], rig.net.heard(0, 0), states[i]);
    }
  }

  private static void guarding() {
    Rig rig = Rig.withDrives(2);
    int before = rig.net.count(1);
    for (int i = 0; i < 3; i++) {
      rig.net.frame(0x702, true, i, 0);
      rig.tick(2);
    }
    rig.net.frame(0x702, false, 1, 0);
    rig.net.frame(0x703, true, 1, 0);
    rig.tick(2);
    long[] due = {0, 127, 0, 255, 0, 127, 0};
    List<Long> found = rig.framesOf(0x702, before);
    Rig.same("requests and answers", found.size(), due.length);
    for (int i = 0; i < found.size(); i++) {
      Rig.same("guarding " + i, found.get(i), due[i]);
    }
    Rig.same("the master hears seven bits", rig.net.heard(1, 0), 127);
    rig.order(130, 0);
    rig.order(2, 0);
    before = rig.net.count(1);
    rig.net.frame(0x702, true, 8, 0);
    rig.tick(2);
    Rig.same("since booting the first time without, also stopped", rig.framesOf(0x702, before).get(1), 4);
  }

  private static void awaitedHeartbeats() {
    Rig rig = Rig.withDrives(1);
    ServoNet net = rig.net;
    rig.set(0, 0x1016, 1, 0x7F000AL, 4);
    rig.tick(50);
    Rig.same("not before the first", net.state(0, 7), 0);
    net.frame(0x77F, false, 1, 5);
    rig.tick(1);
    rig.tick(10);
    Rig.same("ten ticks went by", net.state(0, 7), 0);
    net.frame(0x77F, false, 1, 0);
    rig.tick(1);
    net.frame(0x77F, true, 1, 5);
    net.frame(0x77F, false, 2, 5);
    net.frame(0x77E, false, 1, 5);
    rig.tick(10);
    Rig.same("ten again", net.state(0, 7), 0);
    rig.tick(1);
    Rig.same("eleven: 0x8130", net.entry(0, 0x603F, 0), 0x8130);
    Rig.same("a fault", net.state(0, 2), 7);
    rig.tick(1);
    rig.control(0, 0x80);
    Rig.same("reset", net.state(0, 7), 0);
    rig.tick(30);
    Rig.same("only from the next one on", net.state(0, 7), 0);
    net.frame(0x77F, false, 1, 5);
    rig.tick(12);
    Rig.same("again", net.state(0, 7), 1);
    rig.control(0, 0);
    rig.control(0, 0x80);
    net.frame(0x77F, false, 1, 5);
    rig.tick(1);
    rig.set(0, 0x1016, 1, 0x7F000AL, 4);
    rig.tick(40);
    Rig.same("written, it begins anew", net.state(0, 7), 0);
  }

  private static void awaitedTwice() {
    Rig rig = Rig.withDrives(2);
    ServoNet net = rig.net;
    rig.set(0, 0x1016, 1, 0x20000, 4);
    rig.set(0, 0x1016, 2, 0x20014, 4);
    rig.set(1, 0x1017, 0, 10, 2);
    rig.tick(100);
    Rig.same("they come", net.state(0, 7), 0);
    net.power(1, false);
    rig.tick(22);
    Rig.same("they don't", net.entry(0, 0x603F, 0), 0x8130);
    Rig zero = Rig.withDrives(1);
    zero.set(0, 0x1016, 2, 5, 4);
    zero.net.frame(0x700, false, 1, 0);
    zero.tick(20);
    Rig.same("address 0 is not awaited", zero.net.state(0, 7), 0);
  }

  private static void lossActions() {
    int[][] due = {{0, 1, 127}, {0, 2, 4}, {1, 1, 5}, {2, 1, 4}, {2, 128, 4}, {0, 128, 127}};
    for (int[] d : due) {
      Rig rig = Rig.withDrives(1);
      rig.set(0, 0x1029, 1, d[0], 1);
      rig.set(0, 0x1016, 1, 0x7F0005L, 4);
      rig.ask(0, Rig.request(0x40, 0x1008, 0, 0));
      rig.order(d[1], 0);
      rig.net.frame(0x77F, false, 1, 5);
      rig.tick(6);
      Rig.same("no action yet", rig.net.state(0, 7), 0);
      rig.tick(1);
      Rig.same("0x8130", rig.net.state(0, 7), 1);
      Rig.same("the action " + d[0] + " behind order " + d[1], rig.net.state(0, 1), d[2]);
      Rig.same("a transfer goes with STOPPED", rig.net.state(0, 3), d[2] == 4 ? 0 : 3);
    }
  }

  private static void emergencies() {
    Rig rig = Rig.withDrives(1);
    ServoNet net = rig.net;
    rig.set(0, 0x1016, 1, 0x7F0005L, 4);
    net.frame(0x77F, false, 1, 5);
    rig.tick(6);
    int before = net.count(1);
    rig.tick(1);
    Rig.same("active", net.state(0, 7), 1);
    Rig.same("sent in the same work", net.state(0, 8), 0);
    rig.tick(1);
    List<Long> sent = rig.framesOf(0x81, before);
    Rig.same("one frame", sent.size(), 1);
    Rig.same("its code and 0x1001", sent.get(0), 0x118130);
    Rig.same("its length", net.logged(before, 2), 8);
    Rig.same("heard", net.heard(0, 1), 0x8130);
    before = net.count(1);
    rig.control(0, 0x80);
    rig.tick(1);
    Rig.same("the code goes", net.entry(0, 0x603F, 0), 0);
    Rig.same("0x1001", net.entry(0, 0x1001, 0), 0);
    Rig.same("an emergency with 0", rig.framesOf(0x81, before).get(0), 0);
    Rig.same("heard, too", net.heard(0, 1), 0);
  }

  /** 0x1015: so many ticks between two of them. */
  private static void emergenciesRest() {
    Rig rig = Rig.withDrives(1);
    ServoNet net = rig.net;
    rig.set(0, 0x1015, 0, 30, 2);
    rig.set(0, 0x1016, 1, 0x7F0001L, 4);
    net.frame(0x77F, false, 1, 5);
    rig.tick(4);
    int first = rig.lastTickOf(0x81);
    rig.control(0, 0x80);
    Rig.same("it waits", net.state(0, 8), 1);
    rig.tick(40);
    Rig.same("30 ticks behind the first", rig.lastTickOf(0x81), first + 30);
    rig.control(0, 0);
    rig.tick(60);
    net.frame(0x77F, false, 1, 5);
    rig.tick(4);
    Rig.same("at once, so long behind", rig.clock() - rig.lastTickOf(0x81) <= 3 ? 1 : 0, 1);
  }

  private static void theHistory() {
    Rig rig = Rig.withDrives(1);
    ServoNet net = rig.net;
    rig.set(0, 0x6065, 0, 1, 4);
    rig.set(0, 0x6066, 0, 0, 2);
    rig.set(0, 0x1016, 1, 0x7F0001L, 4);
    for (int i = 1; i <= 10; i++) {
      boolean far = i % 2 == 0;
      if (far) {
        rig.enable(0);
        net.hand(0, 10, true);
        rig.tick(3);
        net.hand(0, 0, false);
      } else {
        net.frame(0x77F, false, 1, 5);
        rig.tick(4);
      }
      Rig.same("how many", net.entry(0, 0x1003, 0), Math.min(8, i));
      Rig.same("the last one first", net.entry(0, 0x1003, 1), far ? 0x8611 : 0x8130);
      Rig.same("then the one before", net.entry(0, 0x1003, 2), i == 1 ? 0 : far ? 0x8130 : 0x8611);
      Rig.same("the eighth", net.entry(0, 0x1003, 8), i < 8 ? 0 : i % 2 == 0 ? 0x8130 : 0x8611);
      rig.control(0, 0);
      rig.control(0, 0x80);
      rig.control(0, 0);
    }
    rig.set(0, 0x1003, 0, 0, 1);
    for (int i = 0; i <= 8; i++) {
      Rig.same("written it is empty", net.entry(0, 0x1003, i), 0);
    }
  }

  private static void eightWait() {
    Rig rig = Rig.withDrives(1);
    ServoNet net = rig.net;
    rig.set(0, 0x1016, 1, 0x7F0001L, 4);
    rig.set(0, 0x1015, 0, 65535, 2);
    int[] due = {0, 1, 2, 3, 4, 5, 6, 7, 8, 8, 8};
    for (int i = 0; i < 6; i++) {
      net.frame(0x77F, false, 1, 5);
      rig.tick(4);
      Rig.same("waiting behind a raise", net.state(0, 8), Math.min(8, 2 * i));
      rig.control(0, 0x80);
      Rig.same("waiting behind a reset", net.state(0, 8), due[Math.min(8, 2 * i + 1)]);
      rig.control(0, 0);
    }
    rig.set(0, 0x1015, 0, 0, 2);
    int before = net.count(1);
    rig.tick(12);
    List<Long> sent = rig.framesOf(0x81, before - 2);
    Rig.isTrue("eight of them came", sent.size() >= 7);
    Rig.same("none wait", net.state(0, 8), 0);
    Rig.same("the last that had room", sent.get(sent.size() - 1), 0x8130);
  }

  private static void stoppedDrivesWait() {
    Rig rig = Rig.withDrives(1);
    ServoNet net = rig.net;
    rig.set(0, 0x1016, 1, 0x7F0005L, 4);
    net.frame(0x77F, false, 1, 5);
    rig.order(2, 0);
    rig.tick(30);
    Rig.same("it waits", net.state(0, 8), 1);
    Rig.same("nothing was heard", net.heard(0, 1), -1);
    rig.order(128, 0);
    rig.tick(1);
    Rig.same("then it is heard", net.heard(0, 1), 0x8130);
  }

  private static void wrongNumbers() {
    ServoNet net = new ServoNet(1);
    Rig.noIndex("power of drive 4", () -> net.power(4, true));
    Rig.noIndex("power of drive -1", () -> net.power(-1, false));
    Rig.noIndex("state of drive 4", () -> net.state(4, 0));
    Rig.noIndex("state of drive -1", () -> net.state(-1, 0));
    Rig.noIndex("state 9", () -> net.state(0, 9));
    Rig.noIndex("state -1", () -> net.state(0, -1));
    Rig.noIndex("heard of drive 4", () -> net.heard(4, 0));
    Rig.noIndex("heard 2", () -> net.heard(0, 2));
    Rig.noIndex("heard -1", () -> net.heard(0, -1));
  }

  private static void bootsWithoutEmergencies() {
    Rig rig = Rig.withDrives(1);
    ServoNet net = rig.net;
    rig.set(0, 0x1015, 0, 65535, 2);
    rig.set(0, 0x1016, 1, 0x7F0001L, 4);
    net.frame(0x77F, false, 1, 5);
    rig.tick(4);
    rig.control(0, 0x80);
    Rig.same("one waits", net.state(0, 8), 1);
    rig.control(0, 0);
    net.frame(0x77F, false, 1, 5);
    rig.tick(4);
    Rig.same("one is active", net.state(0, 7), 1);
    rig.order(129, 0);
    Rig.same("none is active", net.state(0, 7), 0);
    Rig.same("none waits", net.state(0, 8), 0);
    Rig.same("0x603F", net.entry(0, 0x603F, 0), 0);
    Rig.same("0x1001", net.entry(0, 0x1001, 0), 0);
    Rig.same("0x1003", net.entry(0, 0x1003, 0), 0);
    Rig.same("state 1", net.state(0, 2), 1);
  }

  /** All that goes on by itself begins anew with the first work, with entries from a bank. */
  private static void bootsWithWhatIsKept() {
    Rig rig = Rig.withDrives(1);
    ServoNet net = rig.net;
    rig.set(0, 0x1017, 0, 500, 2);
    rig.set(0, 0x1006, 0, 500, 4);
    rig.set(0, 0x1005, 0, 0x40000080L, 4);
    rig.set(0, 0x1016, 1, 0x7F0005L, 4);
    rig.set(0, 0x2012, 0, 50, 1);
    rig.set(0, 0x60B8, 0, 0x11, 2);
    net.frame(0x77F, false, 1, 5);
    rig.tick(1);
    rig.set(0, 0x1010, 1, 0x65766173L, 4);
    int[] orders = {129, 130};
    for (int order : orders) {
      net.frame(0x77F, false, 1, 5);
      net.inputs(0, 0);
      rig.tick(40);
      rig.control(0, 0);
      rig.control(0, 0x80);
      rig.control(0, 0);
      net.inputs(0, 4);
      rig.tick(1);
      int before = net.count(1);
      long trace = net.entry(0, 0x2010, 0);
      net.frame(0x77F, false, 1, 5);
      rig.tick(1);
      rig.order(order, 0);
      rig.tick(20);
      Rig.same("a boot frame and a heartbeat", rig.framesOf(0x701, before).size(), 2);
      Rig.same("a SYNC", rig.framesOf(0x80, before).size(), 1);
      Rig.same("no heartbeat is awaited", net.state(0, 7), 0);
      Rig.same("the trace", net.entry(0, 0x2010, 0), order == 129 ? 4 : trace);
      Rig.same("the probe's input was 0 behind booting", net.entry(0, 0x60B9, 0), 3);
    }
  }

  private static void emergenciesBehindBooting() {
    int[] orders = {129, 130};
    for (int order : orders) {
      Rig rig = Rig.withDrives(1);
      ServoNet net = rig.net;
      rig.set(0, 0x1015, 0, 1000, 2);
      rig.set(0, 0x1016, 1, 0x7F0001L, 4);
      rig.set(0, 0x1010, 1, 0x65766173L, 4);
      rig.tick(40);
      net.frame(0x77F, false, 1, 5);
      rig.tick(4);
      rig.control(0, 0x80);
      rig.control(0, 0);
      rig.order(order, 0);
      int before = net.count(1);
      net.frame(0x77F, false, 1, 5);
      rig.tick(4);
      Rig.same("none was sent since booting: at once", rig.framesOf(0x81, before).size(), 1);
    }
  }

  /** A RESET of a drive whose row is full: 0x8110 is no fault, so it stays. */
  private static void resetsFaultsAlone() {
    Rig rig = Rig.withDrives(1);
    ServoNet net = rig.net;
    rig.set(0, 0x1016, 1, 0x7F0005L, 4);
    rig.set(0, 0x1017, 0, 1, 2);
    rig.set(0, 0x1029, 1, 1, 1);
    rig.operate(0);
    rig.tick(30);
    net.frame(0x77F, false, 1, 5);
    rig.tick(5);
    net.frame(0x601, false, 8, Rig.request(0xA0, 0x2010, 0, 16));
    net.frame(0x601, false, 8, 0xA3);
    net.frame(0x601, false, 8, 0xA2 | 16 << 16);
    rig.tick(1);
    Rig.same("the row is full", net.station(0, 3), 24);
    Rig.same("0x8110", net.entry(0, 0x603F, 0), 0x8110);
    net.disturb(0, 31);
    rig.tick(1);
    Rig.same("and 0x8130", net.state(0, 7), 2);
    Rig.same("fault", net.state(0, 2), 7);
    net.frame(0x201, false, 2, 0x80);
    rig.tick(1);
    Rig.same("reset", net.state(0, 2), 1);
    Rig.same("one is left", net.state(0, 7), 1);
    Rig.same("it is 0x8110", net.entry(0, 0x603F, 0), 0x8110);
    Rig.same("0x1001", net.entry(0, 0x1001, 0), 0x11);
  }
}
