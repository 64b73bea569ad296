import java.util.List;

/** SYNC and process data: section 7 of the terms. */
public final class ProcessTest {
  public static void main(String[] args) {
    aProducer();
    theProducerBeginsAnew();
    inAtOnce();
    inNeedsItsBytes();
    inWithSync();
    inGapsAndCodes();
    inAwaited();
    outWhenItChanges();
    outRests();
    outEvery();
    outWithSync();
    outWithEveryNthSync();
    outByRemote();
    outOnlyWithAMap();
    beginsAnew();
    oneFrameForAll();
    theProducersOwnSync();
    withASyncFirstIn();
    inThatIsOff();
    kind254();
    syncsBeginAnew();
    aWriteToInLeavesOutAlone();
    allFourOfThem();
    Rig.end();
  }

  private static void map(Rig rig, int drive, int map, long... rows) {
    boolean in = map < 0x1A00;
    int com = in ? map - 0x200 : map - 0x200;
    long id = rig.net.entry(drive, com, 1);
    rig.set(drive, com, 1, id | 0x80000000L, 4);
    rig.set(drive, map, 0, 0, 1);
    for (int i = 0; i < rows.length; i++) {
      rig.set(drive, map, i + 1, rows[i], 4);
    }
    rig.set(drive, map, 0, rows.length, 1);
    rig.set(drive, com, 1, id & 0x7FF, 4);
  }

  private static int framesOf(Rig rig, int id, int behind) {
    return rig.framesOf(id, behind).size();
  }

  private static void aProducer() {
    Rig rig = Rig.withDrives(1);
    rig.set(0, 0x1006, 0, 4, 4);
    int before = rig.net.count(1);
    rig.tick(20);
    Rig.same("no producer", framesOf(rig, 0x80, before), 0);
    rig.net.frame(0x601, false, 8, Rig.request(0x23, 0x1005, 0, 0x40000080L));
    int written = rig.clock();
    rig.tick(12);
    int at = 0;
    for (int i = before; i < rig.net.count(1); i++) {
      if (rig.net.logged(i, 0) == 0x80) {
        Rig.same("a SYNC's tick", rig.net.logged(i, 5), written + 1 + 4 * at);
        Rig.same("its length", rig.net.logged(i, 2), 0);
        at++;
      }
    }
    Rig.same("three of them", at, 3);
    rig.order(2, 0);
    before = rig.net.count(1);
    rig.tick(20);
    Rig.same("none in STOPPED", framesOf(rig, 0x80, before), 0);
    rig.order(1, 0);
    rig.tick(1);
    Rig.same("one at once", framesOf(rig, 0x80, before), 1);
    rig.set(0, 0x1006, 0, 0, 4);
    before = rig.net.count(1);
    rig.tick(20);
    Rig.same("none with 0x1006 0", framesOf(rig, 0x80, before), 0);
  }

  private static void theProducerBeginsAnew() {
    Rig rig = Rig.withDrives(1);
    rig.set(0, 0x1006, 0, 1000, 4);
    rig.set(0, 0x1005, 0, 0x40000090L, 4);
    Rig.same("another ID", framesOf(rig, 0x90, 0), 1);
    rig.set(0, 0x1006, 0, 2000, 4);
    Rig.same("since 0x1006 was written", framesOf(rig, 0x90, 0), 2);
    rig.set(0, 0x1005, 0, 0x40000090L, 4);
    Rig.same("since 0x1005 was written", framesOf(rig, 0x90, 0), 3);
    rig.tick(300);
    Rig.same("no more", framesOf(rig, 0x90, 0), 3);
  }

  private static void inAtOnce() {
    Rig rig = Rig.withDrives(2);
    ServoNet net = rig.net;
    net.frame(0x201, false, 2, 6);
    rig.tick(1);
    Rig.same("not in PRE", net.entry(0, 0x6040, 0), 0);
    rig.operate(0);
    net.frame(0x201, false, 2, 6);
    rig.tick(1);
    Rig.same("written at once", net.entry(0, 0x6040, 0), 6);
    Rig.same("and counts in the same work", net.state(0, 2), 2);
    Rig.same("not for the other", net.entry(1, 0x6040, 0), 0);
    net.frame(0x201, true, 2, 0);
    net.frame(0x301, false, 2, 7);
    rig.tick(1);
    Rig.same("not remote, not by OFF ones", net.entry(0, 0x6040, 0), 6);
    map(rig, 0, 0x1602, 0x60FF0020L, 0x60600008L);
    net.frame(0x401, false, 5, 0x03FFFFFFFEL);
    rig.tick(1);
    Rig.same("with sign", net.entry(0, 0x60FF, 0), -2);
    Rig.same("the next bits", net.entry(0, 0x6060, 0), 3);
  }

  private static void inNeedsItsBytes() {
    Rig rig = Rig.withDrives(1);
    ServoNet net = rig.net;
    rig.operate(0);
    net.frame(0x201, false, 1, 6);
    rig.tick(1);
    Rig.same("one byte is too few", net.entry(0, 0x6040, 0), 0);
    net.frame(0x201, false, 8, 0x7777777777770006L);
    rig.tick(1);
    Rig.same("eight are fine", net.entry(0, 0x6040, 0), 6);
  }

  private static void inWithSync() {
    Rig rig = Rig.withDrives(1);
    ServoNet net = rig.net;
    rig.set(0, 0x1400, 2, 7, 1);
    rig.operate(0);
    net.frame(0x80, false, 0, 0);
    net.frame(0x201, false, 2, 6);
    rig.tick(1);
    Rig.same("the SYNC before it does not count", net.entry(0, 0x6040, 0), 0);
    net.frame(0x201, false, 2, 14);
    rig.tick(1);
    Rig.same("it waits", net.entry(0, 0x6040, 0), 0);
    net.frame(0x80, true, 0, 0);
    rig.tick(1);
    Rig.same("no SYNC if remote", net.entry(0, 0x6040, 0), 0);
    net.frame(0x80, false, 5, 0);
    rig.tick(1);
    Rig.same("the latest one", net.entry(0, 0x6040, 0), 14);
    rig.control(0, 6);
    net.frame(0x80, false, 0, 0);
    rig.tick(1);
    Rig.same("once", net.entry(0, 0x6040, 0), 6);
    net.frame(0x201, false, 2, 14);
    rig.tick(1);
    rig.set(0, 0x1400, 5, 0, 2);
    net.frame(0x80, false, 0, 0);
    rig.tick(1);
    Rig.same("a write lets it begin anew", net.entry(0, 0x6040, 0), 6);
    net.frame(0x201, false, 2, 14);
    rig.tick(1);
    rig.order(128, 0);
    rig.operate(0);
    net.frame(0x80, false, 0, 0);
    rig.tick(1);
    Rig.same("so does OPERATIONAL", net.entry(0, 0x6040, 0), 6);
    net.frame(0x201, false, 2, 14);
    rig.tick(1);
    rig.operate(0);
    net.frame(0x80, false, 0, 0);
    rig.tick(1);
    Rig.same("not if it was", net.entry(0, 0x6040, 0), 14);
  }

  private static void inGapsAndCodes() {
    Rig rig = Rig.withDrives(1);
    ServoNet net = rig.net;
    map(rig, 0, 0x1601, 0x00050008L, 0x60600008L, 0x00060010L, 0x60810020L);
    rig.operate(0);
    net.frame(0x301, false, 8, 0x000000C8_EEEE_03_DDL);
    rig.tick(1);
    Rig.same("behind a gap of 8", net.entry(0, 0x6060, 0), 3);
    Rig.same("behind one of 16", net.entry(0, 0x6081, 0), 200);
    net.frame(0x301, false, 8, 0x000000C9_EEEE_02_DDL);
    rig.tick(1);
    Rig.same("a code: not written", net.entry(0, 0x6060, 0), 3);
    Rig.same("the others are", net.entry(0, 0x6081, 0), 201);
    net.frame(0x301, false, 8, 0x00000000_EEEE_06_DDL);
    rig.tick(1);
    Rig.same("the first is", net.entry(0, 0x6060, 0), 6);
    Rig.same("below the least: not", net.entry(0, 0x6081, 0), 201);
    map(rig, 0, 0x1601, 0x00070020L, 0x60FE0120L);
    net.frame(0x301, false, 8, 0x89ABCDEF_00000000L);
    rig.tick(1);
    Rig.same("behind one of 32", net.entry(0, 0x60FE, 1), 0x89ABCDEFL);
    map(rig, 0, 0x1601);
    net.frame(0x301, false, 0, 0);
    rig.tick(1);
    Rig.same("an empty map takes nothing", net.entry(0, 0x6081, 0), 201);
  }

  private static void inAwaited() {
    Rig rig = Rig.withDrives(1);
    ServoNet net = rig.net;
    rig.set(0, 0x1400, 5, 10, 2);
    rig.operate(0);
    rig.tick(40);
    Rig.same("not before the first", net.state(0, 7), 0);
    net.frame(0x201, false, 2, 0);
    rig.tick(1);
    net.frame(0x201, false, 1, 0);
    rig.tick(10);
    Rig.same("ten ticks", net.state(0, 7), 0);
    rig.tick(1);
    Rig.same("eleven: 0x8130", net.entry(0, 0x603F, 0), 0x8130);
    rig.control(0, 0x80);
    rig.tick(30);
    Rig.same("only from the next one on", net.state(0, 7), 0);
    net.frame(0x201, false, 2, 0);
    rig.tick(1);
    rig.order(128, 0);
    rig.tick(30);
    Rig.same("in OPERATIONAL alone", net.state(0, 7), 0);
    rig.operate(0);
    rig.tick(30);
    Rig.same("which begins anew", net.state(0, 7), 0);
    rig.set(0, 0x1400, 2, 1, 1);
    net.frame(0x201, false, 2, 0);
    rig.tick(12);
    Rig.same("of any KIND", net.state(0, 7), 1);
  }

  private static void outWhenItChanges() {
    Rig rig = Rig.withDrives(1);
    int before = rig.net.count(1);
    rig.order(1, 1);
    rig.tick(1);
    List<Long> sent = rig.framesOf(0x181, before);
    Rig.same("none were: one is SENT", sent.size(), 1);
    Rig.same("its bytes", sent.get(0), 0x240);
    rig.tick(20);
    Rig.same("no other", framesOf(rig, 0x181, before), 1);
    rig.net.frame(0x201, false, 2, 6);
    rig.tick(2);
    sent = rig.framesOf(0x181, before);
    Rig.same("it changed", sent.size(), 2);
    Rig.same("its bytes then", sent.get(1), 0x221);
    Rig.same("its length", rig.net.logged(rig.net.count(1) - 1, 2), 2);
    rig.order(128, 0);
    rig.net.frame(0x201, false, 2, 0);
    rig.tick(5);
    Rig.same("not in PRE", framesOf(rig, 0x181, before), 2);
    rig.order(1, 0);
    rig.tick(2);
    Rig.same("anew", framesOf(rig, 0x181, before), 3);
  }

  private static void outRests() {
    Rig rig = Rig.withDrives(1);
    ServoNet net = rig.net;
    map(rig, 0, 0x1A00, 0x60640020L);
    rig.set(0, 0x1800, 3, 10, 2);
    rig.operate(0);
    int first = rig.clock() - 1;
    for (int i = 0; i < 25; i++) {
      net.hand(0, 1, false);
      rig.tick(1);
    }
    List<Long> sent = rig.framesOf(0x181, 0);
    Rig.same("three of them", sent.size(), 3);
    Rig.same("the first", sent.get(0), 0);
    Rig.same("ten ticks later", sent.get(1), 10);
    Rig.same("ten more", sent.get(2), 20);
    Rig.same("the tick of the last", rig.lastTickOf(0x181), first + 21);
  }

  private static void outEvery() {
    Rig rig = Rig.withDrives(1);
    rig.set(0, 0x1800, 5, 7, 2);
    rig.set(0, 0x1800, 2, 254, 1);
    rig.operate(0);
    int start = rig.clock();
    rig.tick(22);
    Rig.same("at once, then every seven ticks", framesOf(rig, 0x181, 0), 4);
    Rig.same("the last", rig.lastTickOf(0x181), start + 21);
    rig.set(0, 0x1800, 3, 9, 2);
    rig.tick(1);
    int before = rig.net.count(1);
    rig.tick(28);
    Rig.same("but every nine with sub 3", framesOf(rig, 0x181, before), 3);
  }

  private static void outWithSync() {
    Rig rig = Rig.withDrives(1);
    ServoNet net = rig.net;
    rig.set(0, 0x1800, 2, 0, 1);
    rig.operate(0);
    rig.tick(5);
    Rig.same("not by itself", framesOf(rig, 0x181, 0), 0);
    net.frame(0x80, false, 0, 0);
    rig.tick(2);
    Rig.same("with a SYNC", framesOf(rig, 0x181, 0), 1);
    net.frame(0x80, false, 0, 0);
    rig.tick(2);
    Rig.same("not the same bytes again", framesOf(rig, 0x181, 0), 1);
    net.frame(0x201, false, 2, 6);
    rig.tick(2);
    Rig.same("not without a SYNC", framesOf(rig, 0x181, 0), 1);
    net.frame(0x80, false, 0, 0);
    rig.tick(2);
    Rig.same("other bytes", framesOf(rig, 0x181, 0), 2);
    rig.set(0, 0x1005, 0, 0x123, 4);
    net.frame(0x201, false, 2, 0);
    net.frame(0x80, false, 0, 0);
    rig.tick(2);
    Rig.same("another ID than 0x1005", framesOf(rig, 0x181, 0), 2);
    net.frame(0x123, false, 0, 0);
    rig.tick(2);
    Rig.same("the ID of 0x1005", framesOf(rig, 0x181, 0), 3);
  }

  private static void outWithEveryNthSync() {
    Rig rig = Rig.withDrives(1);
    ServoNet net = rig.net;
    rig.set(0, 0x1800, 2, 3, 1);
    rig.operate(0);
    int[] due = {0, 0, 1, 1, 1, 2, 2};
    for (int i = 0; i < due.length; i++) {
      net.frame(0x80, false, 0, 0);
      rig.tick(2);
      Rig.same("SYNC " + i, framesOf(rig, 0x181, 0), due[i]);
    }
    rig.set(0, 0x1800, 2, 1, 1);
    for (int i = 0; i < 3; i++) {
      net.frame(0x80, false, 0, 0);
      rig.tick(2);
      Rig.same("every SYNC", framesOf(rig, 0x181, 0), 3 + i);
    }
  }

  private static void outByRemote() {
    Rig rig = Rig.withDrives(1);
    ServoNet net = rig.net;
    rig.set(0, 0x1800, 3, 100, 2);
    net.frame(0x181, true, 2, 0);
    rig.tick(2);
    int before = net.count(1);
    Rig.same("not in PRE: the remote one alone", framesOf(rig, 0x181, 0), 1);
    rig.operate(0);
    for (int i = 0; i < 3; i++) {
      net.frame(0x181, true, i, 0);
      rig.tick(2);
    }
    Rig.same("at once, whatever sub 3", framesOf(rig, 0x181, before), 7);
    before = net.count(1);
    rig.set(0, 0x1800, 2, 100, 1);
    net.frame(0x181, true, 8, 0);
    rig.tick(2);
    Rig.same("whatever its KIND", framesOf(rig, 0x181, before), 2);
    rig.set(0, 0x1800, 1, 0x80000181L, 4);
    before = net.count(1);
    net.frame(0x181, true, 8, 0);
    rig.tick(2);
    Rig.same("not if OFF", framesOf(rig, 0x181, before), 1);
  }

  private static void outOnlyWithAMap() {
    Rig rig = Rig.withDrives(1);
    ServoNet net = rig.net;
    map(rig, 0, 0x1A03);
    rig.operate(0);
    net.frame(0x481, true, 0, 0);
    rig.tick(3);
    Rig.same("no map: the remote one alone", framesOf(rig, 0x481, 0), 1);
    map(rig, 0, 0x1A03, 0x10010008L, 0x60640020L, 0x60410010L, 0x60610008L);
    net.hand(0, -3, false);
    rig.tick(3);
    List<Long> sent = rig.framesOf(0x481, 0);
    Rig.same("four entries, 64 bits", sent.get(sent.size() - 1), 0x01_0240_FFFFFFFD_00L);
  }

  private static void beginsAnew() {
    Rig rig = Rig.withDrives(1);
    rig.operate(0);
    rig.tick(2);
    int before = rig.net.count(1);
    rig.set(0, 0x1800, 5, 0, 2);
    rig.tick(1);
    Rig.same("a write to 0x1800", framesOf(rig, 0x181, before), 1);
    rig.set(0, 0x1400, 5, 0, 2);
    rig.set(0, 0x1801, 5, 0, 2);
    rig.tick(1);
    Rig.same("not one to others", framesOf(rig, 0x181, before), 1);
    rig.operate(0);
    rig.tick(2);
    Rig.same("not OPERATIONAL that was", framesOf(rig, 0x181, before), 1);
    Rig.same("a write that fails", rig.write(0, 0x1800, 2, 250, 1), 0x06090030);
    rig.tick(2);
    Rig.same("does nothing", framesOf(rig, 0x181, before), 1);
  }

  /** One frame counts for SYNC, for IN, and by its request, in that order. */
  private static void oneFrameForAll() {
    Rig rig = Rig.withDrives(1);
    ServoNet net = rig.net;
    rig.set(0, 0x1400, 1, 0x80000201L, 4);
    rig.set(0, 0x1400, 1, 0x601, 4);
    rig.operate(0);
    int before = net.count(1);
    net.frame(0x601, false, 8, Rig.request(0x40, 0x6040, 0, 0));
    rig.tick(2);
    Rig.same("the request first", rig.framesOf(0x581, before).get(0), Rig.request(0x4B, 0x6040, 0, 0));
    Rig.same("then IN", net.entry(0, 0x6040, 0), 0x4040);
    Rig both = Rig.withDrives(1);
    both.set(0, 0x1400, 1, 0x80000201L, 4);
    both.set(0, 0x1400, 1, 0x80, 4);
    both.set(0, 0x1400, 2, 1, 1);
    both.operate(0);
    both.net.frame(0x80, false, 2, 6);
    both.tick(1);
    Rig.same("SYNC comes before IN", both.net.entry(0, 0x6040, 0), 0);
    both.net.frame(0x80, false, 2, 14);
    both.tick(1);
    Rig.same("the next SYNC takes the one before", both.net.entry(0, 0x6040, 0), 6);
  }

  private static void theProducersOwnSync() {
    Rig rig = Rig.withDrives(1);
    rig.set(0, 0x1800, 2, 1, 1);
    rig.operate(0);
    rig.set(0, 0x1006, 0, 5, 4);
    int before = rig.net.count(1);
    rig.set(0, 0x1005, 0, 0x40000080L, 4);
    rig.tick(10);
    Rig.same("SYNCs", framesOf(rig, 0x80, before), 3);
    Rig.same("count for itself", framesOf(rig, 0x181, before), 3);
    Rig pre = Rig.withDrives(1);
    pre.set(0, 0x1006, 0, 1, 4);
    pre.set(0, 0x1800, 2, 1, 1);
    pre.set(0, 0x1005, 0, 0x40000080L, 4);
    pre.tick(5);
    Rig.same("but not in PRE", framesOf(pre, 0x181, 0), 0);
  }

  private static void withASyncFirstIn() {
    Rig rig = Rig.withDrives(1);
    ServoNet net = rig.net;
    map(rig, 0, 0x1A00, 0x60B90010L);
    map(rig, 0, 0x1600, 0x60B80010L);
    map(rig, 0, 0x1601, 0x60B80010L);
    rig.set(0, 0x1800, 2, 1, 1);
    rig.set(0, 0x1400, 2, 1, 1);
    rig.set(0, 0x1401, 2, 0, 1);
    rig.operate(0);
    net.frame(0x201, false, 2, 0);
    net.frame(0x301, false, 2, 1);
    rig.tick(1);
    net.frame(0x80, false, 0, 0);
    rig.tick(2);
    Rig.same("IN 0, IN 1, then OUT", rig.framesOf(0x181, 0).get(0), 1);
    Rig.same("the latter one is there", net.entry(0, 0x60B8, 0), 1);
  }

  private static void inThatIsOff() {
    Rig rig = Rig.withDrives(1);
    rig.operate(0);
    rig.set(0, 0x1400, 1, 0x80000201L, 4);
    rig.set(0, 0x1400, 5, 3, 2);
    rig.net.frame(0x201, false, 2, 6);
    rig.tick(10);
    Rig.same("OFF: not taken", rig.net.entry(0, 0x6040, 0), 0);
    Rig.same("nor awaited", rig.net.state(0, 7), 0);
    rig.set(0, 0x1400, 1, 0x201, 4);
    rig.net.frame(0x201, false, 2, 6);
    rig.tick(1);
    Rig.same("not OFF: taken", rig.net.entry(0, 0x6040, 0), 6);
  }

  private static void kind254() {
    Rig rig = Rig.withDrives(1);
    rig.set(0, 0x1400, 2, 254, 1);
    rig.set(0, 0x1800, 2, 254, 1);
    rig.operate(0);
    rig.tick(2);
    Rig.same("OUT by itself", framesOf(rig, 0x181, 0), 1);
    rig.net.frame(0x201, false, 2, 1);
    rig.tick(1);
    Rig.same("IN at once", rig.net.entry(0, 0x6040, 0), 1);
    rig.net.frame(0x80, false, 0, 0);
    rig.tick(2);
    Rig.same("OUT not with a SYNC", framesOf(rig, 0x181, 0), 1);
    int sent = rig.net.count(1);
    for (int i = 0; i < 256; i++) {
      rig.net.frame(0x80, false, 0, 0);
      if (i % 8 == 7) {
        rig.tick(1);
      }
    }
    rig.tick(2);
    Rig.same("nor with many", rig.net.count(1) - sent, 256);
    rig.set(0, 0x1400, 2, 240, 1);
    rig.set(0, 0x1800, 2, 240, 1);
    rig.net.frame(0x201, false, 2, 6);
    rig.tick(2);
    Rig.same("240 waits", rig.net.entry(0, 0x6040, 0), 1);
    sent = rig.net.count(1);
    rig.net.frame(0x80, false, 0, 0);
    rig.tick(2);
    Rig.same("for a SYNC", rig.net.entry(0, 0x6040, 0), 6);
    Rig.same("OUT for 240 of them", rig.net.count(1) - sent, 1);
  }

  private static void syncsBeginAnew() {
    Rig rig = Rig.withDrives(1);
    rig.set(0, 0x1800, 2, 3, 1);
    rig.operate(0);
    for (int i = 0; i < 2; i++) {
      rig.net.frame(0x80, false, 0, 0);
    }
    rig.tick(2);
    rig.set(0, 0x1800, 3, 0, 2);
    for (int i = 1; i <= 3; i++) {
      rig.net.frame(0x80, false, 0, 0);
      rig.tick(2);
      Rig.same("SYNC " + i + " behind the write", framesOf(rig, 0x181, 0), i / 3);
    }
  }

  private static void aWriteToInLeavesOutAlone() {
    Rig rig = Rig.withDrives(1);
    rig.operate(0);
    rig.set(0, 0x1400, 1, 0x80000201L, 4);
    rig.tick(2);
    int before = rig.net.count(1);
    for (int k = 0; k < 4; k++) {
      rig.set(0, 0x1600 + k, 0, 0, 1);
      rig.set(0, 0x1600 + k, 4, 0, 4);
      rig.set(0, 0x1400 + k, 5, 0, 2);
    }
    for (int k = 1; k < 4; k++) {
      rig.set(0, 0x1A00 + k, 0, 0, 1);
      rig.set(0, 0x1800 + k, 5, 0, 2);
    }
    rig.tick(2);
    Rig.same("nothing was SENT", framesOf(rig, 0x181, before), 0);
  }

  /** IN and OUT 0 to 3, each with its own ID and map. */
  private static void allFourOfThem() {
    Rig rig = Rig.withDrives(1);
    ServoNet net = rig.net;
    for (int k = 1; k < 4; k++) {
      map(rig, 0, 0x1600 + k, 0x60810020L, 0x60830020L);
      map(rig, 0, 0x1A00 + k, 0x60640020L);
    }
    rig.operate(0);
    rig.tick(2);
    for (int k = 1; k < 4; k++) {
      net.frame(0x201 + 0x100 * k, false, 8, 50 + k | 60L + k << 32);
      net.hand(0, 1, false);
      rig.tick(2);
      Rig.same("IN " + k, net.entry(0, 0x6081, 0), 50 + k);
      Rig.same("its second entry", net.entry(0, 0x6083, 0), 60 + k);
    }
    for (int k = 1; k < 4; k++) {
      List<Long> sent = rig.framesOf(0x181 + 0x100 * k, 0);
      Rig.same("OUT " + k, sent.size(), 4);
      Rig.same("its last", sent.get(3), 3);
    }
  }
}
