/** Time and the bus: promises 2, 4, 5, 11, 24 and 25, and section 1 of the terms. */
public final class BusTest {
  public static void main(String[] args) {
    ticks();
    framesAndRows();
    wrongFrames();
    theLeastIdWins();
    ofOneId();
    theLogTellsAll();
    theLogKeeps256();
    disturbances();
    countsGoDown();
    takeCountsStopAt128();
    busOff();
    aDriveThatWasBusOff();
    lostFramesOfADrive();
    wrongNumbers();
    countsGoWithPower();
    takeCountsGoWithBusOff();
    Rig.end();
  }

  private static void ticks() {
    ServoNet net = new ServoNet(1);
    Rig.same("no tick", net.tick(0), 0);
    Rig.same("200 ticks", net.tick(200), 200);
    Rig.same("one more", net.tick(1), 201);
    Rig.noArgument("tick(-1)", () -> net.tick(-1));
    Rig.noArgument("tick(201)", () -> net.tick(201));
    Rig.same("the clock stays", net.count(0), 201);
  }

  private static void framesAndRows() {
    ServoNet net = new ServoNet(1);
    for (int i = 1; i <= 24; i++) {
      Rig.same("frame " + i, net.frame(2047, false, 8, i), i);
    }
    Rig.same("a full row", net.frame(0, false, 0, 0), -1);
    Rig.same("it has 24 still", net.station(4, 3), 24);
    Rig.same("one was lost", net.count(2), 1);
    net.tick(1);
    Rig.same("one left the row", net.station(4, 3), 23);
    Rig.same("as they came", net.logged(0, 3), 1);
    Rig.same("there is room again", net.frame(0, false, 0, 0), 24);
    net.tick(1);
    Rig.same("by their IDs", net.logged(1, 0), 0);
  }

  private static void wrongFrames() {
    ServoNet net = new ServoNet(1);
    Rig.noArgument("ID -1", () -> net.frame(-1, false, 0, 0));
    Rig.noArgument("ID 2048", () -> net.frame(2048, false, 0, 0));
    Rig.noArgument("length -1", () -> net.frame(1, true, -1, 0));
    Rig.noArgument("length 9", () -> net.frame(1, false, 9, 0));
    Rig.same("nothing was sent", net.station(4, 3), 0);
  }

  private static void theLeastIdWins() {
    Rig rig = new Rig(1);
    ServoNet net = rig.net;
    net.frame(0x703, false, 1, 1);
    net.frame(0x600, false, 1, 2);
    net.power(1, true);
    net.power(0, true);
    net.frame(0x701, true, 1, 0);
    net.tick(5);
    net.tick(1);
    // The fourth one is the answer to the guarding of the third one.
    int[] ids = {0x600, 0x701, 0x701, 0x701, 0x702, 0x703};
    int[] stations = {4, 0, 4, 0, 1, 4};
    for (int i = 0; i < 6; i++) {
      Rig.same("the ID of frame " + i, net.logged(i, 0), ids[i]);
      Rig.same("the station of frame " + i, net.logged(i, 4), stations[i]);
      Rig.same("the tick of frame " + i, net.logged(i, 5), i);
    }
  }

  /** Not REMOTE before REMOTE, then the least station; in one row as they came. */
  private static void ofOneId() {
    Rig rig = new Rig(8);
    ServoNet net = rig.net;
    net.frame(0x702, true, 3, 0);
    net.frame(0x702, false, 1, 9);
    net.power(1, true);
    net.tick(1);
    Rig.same("the drive's, as the master's first one is remote", net.logged(0, 4), 1);
    Rig.same("then the remote one, which came first", net.logged(1, 1), 1);
    Rig.same("then the other one", net.logged(2, 3), 9);
    Rig other = new Rig(8);
    other.net.frame(0x702, false, 1, 9);
    other.net.power(1, true);
    other.net.tick(1);
    Rig.same("the least station first", other.net.logged(0, 4), 1);
  }

  private static void theLogTellsAll() {
    ServoNet net = new ServoNet(8);
    net.tick(7);
    net.frame(3, false, 3, 0x1122334455667788L);
    net.frame(4, true, 5, 0x1122334455667788L);
    net.frame(5, false, 8, -2);
    net.frame(6, false, 0, -1);
    net.tick(1);
    long[][] due = {{3, 0, 3, 0x667788, 4, 7}, {4, 1, 5, 0, 4, 7}, {5, 0, 8, -2, 4, 7}, {6, 0, 0, 0, 4, 7}};
    for (int i = 0; i < due.length; i++) {
      for (int what = 0; what < 6; what++) {
        Rig.same("frame " + i + " what " + what, net.logged(i, what), due[i][what]);
      }
    }
    Rig.noIndex("frame 4", () -> net.logged(4, 0));
    Rig.noIndex("frame -1", () -> net.logged(-1, 0));
    Rig.noIndex("what 6", () -> net.logged(0, 6));
    Rig.noIndex("what -1", () -> net.logged(0, -1));
  }

  private static void theLogKeeps256() {
    ServoNet net = new ServoNet(8);
    for (int i = 0; i < 300; i++) {
      net.frame(1 + i, false, 2, i);
      if (i % 8 == 7) {
        net.tick(1);
      }
    }
    net.tick(1);
    Rig.same("frames in the log", net.count(1), 300);
    Rig.noIndex("one before the last 256", () -> net.logged(43, 0));
    Rig.same("the first of the last 256", net.logged(44, 3), 44);
    Rig.same("the last one", net.logged(299, 0), 300);
  }

  private static void disturbances() {
    Rig rig = new Rig(4);
    ServoNet net = rig.net;
    net.power(0, true);
    net.tick(1);
    Rig.same("none were left", net.disturb(4, 5), 0);
    Rig.same("five were left", net.disturb(4, 6), 5);
    net.frame(9, false, 0, 0);
    net.tick(1);
    Rig.same("each time counts", net.count(3), 4);
    Rig.same("nothing passed", net.count(1), 1);
    Rig.same("disturbances left", net.station(4, 4), 2);
    Rig.same("the send count", net.station(4, 1), 32);
    Rig.same("the take count of the other", net.station(0, 2), 4);
    Rig.same("one without power", net.station(1, 2), 0);
    Rig.same("the frame stays", net.station(4, 3), 1);
    net.tick(1);
    Rig.same("then it passes", net.count(1), 2);
    Rig.same("the send count goes down by one", net.station(4, 1), 47);
    Rig.same("so does the take count", net.station(0, 2), 5);
    Rig.same("all disturbances", net.count(3), 6);
    Rig.same("none are left", net.disturb(4, 0), 0);
  }

  private static void countsGoDown() {
    Rig rig = new Rig(8);
    rig.net.power(0, true);
    rig.net.power(1, true);
    rig.net.disturb(0, 1);
    rig.net.tick(1);
    Rig.same("a disturbance, then two frames", rig.net.station(0, 1), 7);
    Rig.same("the take count of the master", rig.net.station(4, 2), 0);
    Rig.same("the take count of drive 1 goes down by one frame", rig.net.station(1, 2), 0);
    for (int i = 0; i < 20; i++) {
      rig.net.frame(0x7FF, false, 0, 0);
      rig.net.disturb(4, 0);
    }
    rig.tick(5);
    Rig.same("the master's send count stays 0", rig.net.station(4, 1), 0);
    Rig.same("take counts stay 0", rig.net.station(0, 2), 0);
  }

  private static void takeCountsStopAt128() {
    Rig rig = Rig.withDrives(1);
    ServoNet net = rig.net;
    for (int k = 1; k < 4; k++) {
      net.power(k, true);
      net.disturb(k, 1000);
    }
    net.disturb(4, 1000);
    net.frame(0, false, 0, 0);
    net.tick(15);
    Rig.same("120 disturbances of others", net.station(0, 2), 120);
    net.tick(1);
    Rig.same("128 of them", net.station(0, 2), 128);
    rig.tick(150);
    Rig.isTrue("more of them", net.count(3) > 200);
    Rig.same("the count stays", net.station(0, 2), 128);
    Rig.same("no frame but the first one passed", net.count(1), 1);
  }

  private static void busOff() {
    Rig rig = new Rig(8);
    ServoNet net = rig.net;
    net.power(0, true);
    net.tick(1);
    net.disturb(4, 1000);
    net.frame(9, false, 0, 0);
    net.frame(10, false, 0, 0);
    net.tick(3);
    Rig.same("192 is not enough", net.station(4, 0), 0);
    net.tick(1);
    Rig.same("256 is", net.station(4, 0), 1);
    Rig.same("its send count", net.station(4, 1), 256);
    Rig.same("its out row is empty", net.station(4, 3), 0);
    Rig.same("the others' take count", net.station(0, 2), 32);
    Rig.same("it sends to its row all the same", net.frame(11, false, 0, 0), 1);
    net.power(1, true);
    net.tick(127);
    Rig.same("it hears nothing", net.heard(1, 0), -1);
    Rig.same("up to the end of the 128th tick", net.station(4, 0), 1);
    Rig.same("nothing of it was disturbed", net.station(4, 4), 968);
    net.tick(1);
    Rig.same("then it is over", net.station(4, 0), 0);
    Rig.same("with a send count of 0", net.station(4, 1), 0);
    Rig.same("and a take count of 0", net.station(4, 2), 0);
    net.tick(1);
    Rig.same("then its frame is disturbed", net.station(4, 4), 960);
  }

  private static void aDriveThatWasBusOff() {
    Rig rig = new Rig(8);
    ServoNet net = rig.net;
    net.power(2, true);
    net.disturb(2, 32);
    net.tick(4);
    Rig.same("bus-off", net.station(2, 0), 1);
    Rig.same("its boot frame is gone", net.station(2, 3), 0);
    net.tick(127);
    Rig.same("no emergency yet", net.state(2, 7), 0);
    net.tick(1);
    Rig.same("it raises 0x8140", net.entry(2, 0x603F, 0), 0x8140);
    Rig.same("which is a fault", net.state(2, 2), 7);
    net.tick(2);
    Rig.same("the master hears it", net.heard(2, 1), 0x8140);
    net.disturb(2, 1000);
    net.power(2, false);
    Rig.same("without power it is not disturbed", net.station(2, 4), 0);
  }

  /** A full out row of a drive: 0x8110, which goes when none was LOST since the tick before. */
  private static void lostFramesOfADrive() {
    Rig rig = Rig.withDrives(1);
    ServoNet net = rig.net;
    rig.set(0, 0x1017, 0, 1, 2);
    net.disturb(0, 32);
    net.tick(4);
    Rig.same("bus-off", net.station(0, 0), 1);
    Rig.same("the row has the last heartbeat", net.station(0, 3), 1);
    net.tick(23);
    Rig.same("the row is full", net.station(0, 3), 24);
    Rig.same("nothing was lost", net.count(2), 0);
    Rig.same("nothing is active", net.state(0, 7), 0);
    net.tick(1);
    Rig.same("a heartbeat and the emergency were lost", net.count(2), 2);
    Rig.same("0x8110 is active", net.entry(0, 0x603F, 0), 0x8110);
    Rig.same("0x1001", net.entry(0, 0x1001, 0), 0x11);
    Rig.same("the emergency does not wait", net.state(0, 8), 0);
    Rig.same("it is no fault", net.state(0, 2), 1);
    net.tick(103);
    Rig.same("bus-off still", net.station(0, 0), 1);
    Rig.same("each tick loses one", net.count(2), 105);
    net.tick(1);
    Rig.same("0x8140 is behind it", net.state(0, 7), 2);
    net.tick(1);
    Rig.same("0x8110 goes as none was lost", net.state(0, 7), 1);
    Rig.same("0x603F is the last one left", net.entry(0, 0x603F, 0), 0x8140);
    Rig.same("the history has both", net.entry(0, 0x1003, 0), 2);
    Rig.same("the last first", net.entry(0, 0x1003, 1), 0x8140);
    Rig.same("the first last", net.entry(0, 0x1003, 2), 0x8110);
  }

  private static void wrongNumbers() {
    ServoNet net = new ServoNet(1);
    Rig.noIndex("disturb station 5", () -> net.disturb(5, 2000));
    Rig.noIndex("disturb station -1", () -> net.disturb(-1, 0));
    Rig.noArgument("disturb -1 times", () -> net.disturb(0, -1));
    Rig.noArgument("disturb 1001 times", () -> net.disturb(0, 1001));
    Rig.same("1000 times are fine", net.disturb(0, 1000), 0);
    Rig.same("a drive without power can be told so", net.station(0, 4), 1000);
    net.power(0, true);
    Rig.same("but boots without", net.station(0, 4), 0);
    Rig.noIndex("station 5", () -> net.station(5, 0));
    Rig.noIndex("station -1", () -> net.station(-1, 0));
    Rig.noIndex("station's what 5", () -> net.station(0, 5));
    Rig.noIndex("station's what -1", () -> net.station(4, -1));
    Rig.noIndex("count's what 4", () -> net.count(4));
    Rig.noIndex("count's what -1", () -> net.count(-1));
  }

  private static void countsGoWithPower() {
    Rig rig = Rig.withDrives(2);
    ServoNet net = rig.net;
    net.disturb(4, 3);
    net.frame(0, false, 0, 0);
    net.frame(0x701, true, 0, 0);
    net.tick(1);
    net.disturb(0, 31);
    net.tick(1);
    Rig.same("a send count", net.station(0, 1), 64);
    Rig.same("a take count", net.station(0, 2), 1);
    net.power(0, false);
    for (int what = 0; what < 5; what++) {
      Rig.same("without power " + what, net.station(0, what), 0);
    }
    net.power(0, true);
    net.disturb(0, 32);
    net.tick(4);
    Rig.same("bus-off", net.station(0, 0), 1);
    net.power(0, false);
    net.power(0, true);
    Rig.same("not any more", net.station(0, 0), 0);
    net.tick(1);
    Rig.same("its boot frame goes", net.heard(0, 0), 0);
  }

  private static void takeCountsGoWithBusOff() {
    Rig rig = Rig.withDrives(1);
    ServoNet net = rig.net;
    net.frame(0x701, true, 0, 0);
    net.tick(1);
    net.disturb(0, 8);
    net.tick(1);
    Rig.same("the master's take count", net.station(4, 2), 8);
    net.disturb(4, 32);
    net.frame(0, false, 0, 0);
    net.tick(4);
    Rig.same("bus-off", net.station(4, 0), 1);
    Rig.same("its take count stays", net.station(4, 2), 8);
    rig.tick(128);
    Rig.same("up to the end", net.station(4, 2), 0);
  }
}
