import java.util.ArrayList;
import java.util.List;

/** The master's BUFFER and its jobs: section 9 of the terms, and promises 15 to 19. */
public final class JobsTest {
  private static final int TEXT = 0x2000;
  private static final int RUNS = 1;
  private static final int WELL = 2;
  private static final int ABORTED = 3;

  public static void main(String[] args) {
    theBuffer();
    downInOnePiece();
    downInSegments();
    upInOnePiece();
    upInSegments();
    downInBlocks();
    upInBlocks();
    abortsOfTheDrive();
    requestsAreSentAtOnce();
    patience();
    patienceBehindAnAnswer();
    anAnswerOfAnotherKind();
    wrongTurns();
    noRoom();
    blocksThatFail();
    piecesThatFail();
    lostRequests();
    onlyOneJob();
    wrongNumbers();
    oneKindBehindAnother();
    blocksOfOne();
    exactly160();
    patienceWithPieces();
    Rig.end();
  }

  private static void fill(ServoNet net, int n) {
    net.clear();
    for (int i = 0; i < n; i++) {
      net.put(i * 7 + 3 & 255);
    }
  }

  private static void isFilled(ServoNet net, int n) {
    Rig.same("bytes in the buffer", net.told(3), n);
    for (int i = 0; i < n; i++) {
      Rig.same("byte " + i, net.buffer(i), i * 7 + 3 & 255);
    }
    Rig.same("behind them", net.buffer(n), -1);
  }

  private static void theBuffer() {
    ServoNet net = new ServoNet(1);
    for (int i = 1; i <= 160; i++) {
      Rig.same("put", net.put(i & 255), i);
    }
    Rig.notNow("a full buffer", () -> net.put(0));
    Rig.noArgument("a wrong byte comes first", () -> net.put(256));
    Rig.noArgument("-1", () -> net.put(-1));
    Rig.same("the first", net.buffer(0), 1);
    Rig.same("the last", net.buffer(159), 160);
    Rig.same("behind it", net.buffer(160), -1);
    Rig.same("before it", net.buffer(-1), -1);
    Rig.same("far", net.buffer(Integer.MAX_VALUE), -1);
    Rig.same("how many", net.told(3), 160);
    Rig.same("clear", net.clear(), 160);
    Rig.same("clear again", net.clear(), 0);
    Rig.same("none", net.buffer(0), -1);
    Rig.same("255", net.put(255), 1);
    Rig.same("it is", net.buffer(0), 255);
  }

  private static void run(Rig rig, int index, int sub, boolean up, boolean blocks, int due) {
    rig.net.job(0, index, sub, up, blocks);
    Rig.same("it runs", rig.net.told(0), RUNS);
    rig.tick(60);
    Rig.same("how it ended", rig.net.told(0), due);
  }

  private static void downInOnePiece() {
    Rig rig = Rig.withDrives(1);
    for (int n = 1; n <= 4; n++) {
      fill(rig.net, n);
      int before = rig.net.count(1);
      run(rig, TEXT, 0, false, false, WELL);
      Rig.same("one request", rig.net.told(2), 1);
      Rig.same("its command", rig.framesOf(0x601, before).get(0) & 255, 0x23 + 4 * (4 - n));
      Rig.same("how many there are", rig.net.entry(0, TEXT, 0), n);
      Rig.same("the last one", rig.net.octet(0, TEXT, 0, n - 1), n * 7 - 4);
    }
    fill(rig.net, 0);
    rig.net.put(3);
    int before = rig.net.count(1);
    run(rig, 0x6060, 0, false, false, WELL);
    Rig.same("a mode", rig.net.entry(0, 0x6060, 0), 3);
    Rig.same("its request", rig.framesOf(0x601, before).get(0), Rig.request(0x2F, 0x6060, 0, 3));
  }

  private static void downInSegments() {
    Rig rig = Rig.withDrives(1);
    int[][] due = {{0, 2}, {5, 2}, {7, 2}, {8, 3}, {14, 3}, {15, 4}, {24, 5}};
    for (int[] d : due) {
      fill(rig.net, d[0]);
      int before = rig.net.count(1);
      run(rig, TEXT, 0, false, false, WELL);
      Rig.same("requests for " + d[0], rig.net.told(2), d[1]);
      Rig.same("the first", rig.framesOf(0x601, before).get(0), Rig.request(0x21, TEXT, 0, d[0]));
      Rig.same("how many there are", rig.net.entry(0, TEXT, 0), d[0]);
      for (int i = 0; i < d[0]; i++) {
        Rig.same("byte " + i, rig.net.octet(0, TEXT, 0, i), i * 7 + 3 & 255);
      }
      isFilled(rig.net, d[0]);
    }
    fill(rig.net, 10);
    int before = rig.net.count(1);
    run(rig, TEXT, 0, false, false, WELL);
    List<Long> sent = rig.framesOf(0x601, before);
    Rig.same("the first segment", sent.get(1) & 255, 0x00);
    Rig.same("the last", sent.get(2), 0x10 | 8 | 1 | 0x34L << 8 | 0x3BL << 16 | 0x42L << 24);
  }

  private static void upInOnePiece() {
    Rig rig = Rig.withDrives(1);
    int[][] due = {{0x1001, 1}, {0x6040, 2}, {0x6081, 4}};
    for (int[] d : due) {
      fill(rig.net, 50);
      run(rig, d[0], 0, true, false, WELL);
      Rig.same("its bytes", rig.net.told(3), d[1]);
      for (int i = 0; i < d[1]; i++) {
        Rig.same("byte " + i, rig.net.buffer(i), rig.net.octet(0, d[0], 0, i));
      }
      Rig.same("one request", rig.net.told(2), 1);
    }
  }

  private static void upInSegments() {
    Rig rig = Rig.withDrives(1);
    int[] sizes = {0, 5, 7, 8, 24};
    for (int n : sizes) {
      fill(rig.net, n);
      run(rig, TEXT, 0, false, false, WELL);
      fill(rig.net, 3);
      run(rig, TEXT, 0, true, false, WELL);
      isFilled(rig.net, n);
      Rig.same("requests for " + n, rig.net.told(2), 1 + Math.max(1, (n + 6) / 7));
    }
  }

  private static void downInBlocks() {
    Rig rig = Rig.withDrives(1);
    int[] sizes = {0, 1, 4, 7, 8, 24};
    for (int n : sizes) {
      fill(rig.net, n);
      int before = rig.net.count(1);
      run(rig, TEXT, 0, false, true, WELL);
      Rig.same("requests for " + n, rig.net.told(2), 2 + Math.max(1, (n + 6) / 7));
      Rig.same("the first", rig.framesOf(0x601, before).get(0), Rig.request(0xC6, TEXT, 0, n));
      Rig.same("how many there are", rig.net.entry(0, TEXT, 0), n);
      for (int i = 0; i < n; i++) {
        Rig.same("byte " + i, rig.net.octet(0, TEXT, 0, i), i * 7 + 3 & 255);
      }
    }
    fill(rig.net, 144);
    run(rig, 0x2011, 0, false, true, WELL);
    Rig.same("three blocks: requests", rig.net.told(2), 23);
    Rig.same("all steps", rig.net.entry(0, 0x2011, 0), 144);
    Rig.same("the last byte", rig.net.octet(0, 0x2011, 0, 143), 143 * 7 + 3 & 255);
  }

  private static void upInBlocks() {
    Rig rig = Rig.withDrives(1);
    int[] sizes = {0, 1, 7, 8, 24};
    for (int n : sizes) {
      fill(rig.net, n);
      run(rig, TEXT, 0, false, true, WELL);
      fill(rig.net, 3);
      int before = rig.net.count(1);
      run(rig, TEXT, 0, true, true, WELL);
      Rig.same("the first", rig.framesOf(0x601, before).get(0), Rig.request(0xA4, TEXT, 0, 8));
      isFilled(rig.net, n);
      Rig.same("requests for " + n, rig.net.told(2), 4);
    }
    fill(rig.net, 144);
    run(rig, 0x2011, 0, false, true, WELL);
    fill(rig.net, 0);
    run(rig, 0x2011, 0, true, true, WELL);
    isFilled(rig.net, 144);
    Rig.same("three blocks", rig.net.told(2), 6);
  }

  private static void abortsOfTheDrive() {
    Rig rig = Rig.withDrives(1);
    fill(rig.net, 25);
    run(rig, TEXT, 0, false, false, ABORTED);
    Rig.same("too many", rig.net.told(1), 0x06070012);
    Rig.same("the buffer stays", rig.net.told(3), 25);
    run(rig, TEXT, 1, true, true, ABORTED);
    Rig.same("no sub", rig.net.told(1), 0x06090011);
    run(rig, 65535, 255, true, false, ABORTED);
    Rig.same("no index", rig.net.told(1), 0x06020000);
    run(rig, 0x1001, 0, true, false, WELL);
    Rig.same("no code then", rig.net.told(1), 0);
  }

  private static void requestsAreSentAtOnce() {
    Rig rig = Rig.withDrives(1);
    rig.net.job(0, 0x1001, 0, true, false);
    Rig.same("a request", rig.net.told(2), 1);
    Rig.same("in the row", rig.net.station(4, 3), 1);
    rig.tick(1);
    Rig.same("the answer is not yet there", rig.net.told(0), RUNS);
    rig.tick(1);
    Rig.same("the answer", rig.net.told(0), WELL);
  }

  private static void patience() {
    Rig rig = new Rig(1);
    rig.tick(10);
    rig.net.job(2, 0x1000, 0, true, false);
    // In the work of the 301st tick the clock is 300 more than when it sent.
    rig.tick(301);
    Rig.same("300 ticks went by", rig.net.told(0), RUNS);
    rig.tick(1);
    Rig.same("301", rig.net.told(0), ABORTED);
    Rig.same("its code", rig.net.told(1), 0x05040000);
    Rig.same("its abort counts", rig.net.told(2), 2);
    rig.tick(1);
    Rig.same("its abort", rig.net.logged(1, 3), Rig.request(0x80, 0x1000, 0, 0x05040000));
  }

  private static void patienceBehindAnAnswer() {
    Rig rig = Rig.withDrives(1);
    fill(rig.net, 24);
    rig.net.job(0, TEXT, 0, false, false);
    rig.tick(2);
    int answered = rig.clock() - 1;
    rig.net.power(0, false);
    rig.tick(300);
    Rig.same("since it sent last", rig.net.told(0), RUNS);
    rig.tick(1);
    Rig.same("more than 300", rig.net.told(0), ABORTED);
    Rig.same("the clock", rig.clock() - 1, answered + 301);
  }

  /** A drive whose process data go out as if they were answers of another one. */
  private static final class Liar {
    final Rig rig;

    Liar() {
      rig = new Rig(8);
      rig.net.power(0, true);
      rig.net.tick(1);
      rig.set(0, 0x1800, 1, 0x80000181L, 4);
      rig.set(0, 0x1A00, 0, 0, 1);
      // 64 bits that can be told by hand: the places of both probes.
      rig.set(0, 0x1A00, 1, 0x60BA0020L, 4);
      rig.set(0, 0x1A00, 2, 0x60BB0020L, 4);
      rig.set(0, 0x1A00, 0, 2, 1);
      rig.set(0, 0x1800, 2, 1, 1);
      rig.set(0, 0x1800, 1, 0x582, 4);
      rig.set(0, 0x60B8, 0, 0x33, 2);
      rig.operate(0);
    }

    private void shaftTo(int place) {
      while (rig.net.entry(0, 0x6064, 0) != place) {
        long way = place - rig.net.entry(0, 0x6064, 0);
        rig.net.hand(0, (int) Math.max(-1000000, Math.min(1000000, way)), false);
      }
    }

    /** The bytes come to the master as an answer of drive 1; low ones are small, as a hand is slow. */
    void answers(int low, int high) {
      shaftTo(low);
      rig.net.inputs(0, 4);
      rig.tick(1);
      shaftTo(high);
      rig.net.inputs(0, 0);
      rig.tick(1);
      rig.net.frame(0x80, false, 0, 0);
      rig.tick(3);
    }
  }

  private static int command(int c, int index, int sub) {
    return c | index << 8 | sub << 24;
  }

  private static void anAnswerOfAnotherKind() {
    Liar liar = new Liar();
    ServoNet net = liar.rig.net;
    int[] wrong = {0x60, 0x41, 0x44, 0x53, 0xC6, 0x00};
    for (int c : wrong) {
      net.job(1, 3, 0, true, false);
      liar.answers(command(c, c == 0x41 || c == 0x44 ? 4 : 3, 0), 0);
      Rig.same("aborted", net.told(0), ABORTED);
      Rig.same("its code", net.told(1), 0x05040001);
      Rig.same("its own abort counts", net.told(2), 2);
    }
    int before = net.count(1);
    net.job(1, 3, 0, true, false);
    liar.answers(command(0x43, 3, 0), 0x01020304);
    Rig.same("the right one", net.told(0), WELL);
    Rig.same("its bytes", net.buffer(0), 4);
    Rig.same("the last", net.buffer(3), 1);
    Rig.same("one request", liar.rig.framesOf(0x602, before).size(), 1);
    net.job(1, 3, 0, true, false);
    liar.answers(0x80, 0x0100007);
    Rig.same("an abort with another index", net.told(0), ABORTED);
    Rig.same("its code as it came", net.told(1), 0x0100007);
    Rig.same("no abort is sent", net.told(2), 1);
    net.job(1, 3, 0, true, false);
    liar.answers(0x4F | 3 << 8, 0x01020304);
    Rig.same("one byte", net.told(3), 1);
    net.job(1, 3, 0, false, false);
    liar.answers(command(0x60, 4, 0), 0);
    Rig.same("0x60 with another index", net.told(1), 0x05040001);
  }

  private static void wrongTurns() {
    Liar liar = new Liar();
    ServoNet net = liar.rig.net;
    net.job(1, 3, 0, true, false);
    liar.answers(command(0x41, 3, 0), 99);
    Rig.same("it goes on", net.told(0), RUNS);
    Rig.same("the buffer is empty", net.told(3), 0);
    liar.answers(0x10, 0);
    Rig.same("another bit 4", net.told(1), 0x05030000);
    net.job(1, 3, 0, true, false);
    liar.answers(command(0x41, 3, 0), 99);
    liar.answers(0x20, 0);
    Rig.same("not below 0x20", net.told(1), 0x05040001);
    net.job(1, 3, 0, true, false);
    liar.answers(command(0x41, 3, 0), 99);
    liar.answers(0x09 | 5 << 8, 0);
    Rig.same("the told number does not count", net.told(0), WELL);
    Rig.same("three bytes", net.told(3), 3);
    fill(net, 20);
    net.job(1, 3, 0, false, false);
    liar.answers(command(0x60, 3, 0), 0);
    liar.answers(0x30, 0);
    Rig.same("another bit 4 down", net.told(1), 0x05030000);
    net.job(1, 3, 0, false, false);
    liar.answers(command(0x60, 3, 0), 0);
    liar.answers(0x21, 0);
    Rig.same("another command down", net.told(1), 0x05040001);
  }

  private static void noRoom() {
    Liar liar = new Liar();
    ServoNet net = liar.rig.net;
    net.job(1, 3, 0, true, false);
    liar.answers(command(0x41, 3, 0), 99);
    for (int i = 0; i < 22; i++) {
      liar.answers(i % 2 * 16, i);
    }
    Rig.same("154 bytes", net.told(3), 154);
    liar.answers(0x00, 0);
    Rig.same("no room", net.told(1), 0x05040005);
    Rig.same("none of them came", net.told(3), 154);
    net.job(1, 3, 0, true, true);
    liar.answers(command(0xC6, 3, 0), 99);
    for (int i = 0; i < 22; i++) {
      liar.answers(i % 8 + 1, i);
    }
    Rig.same("22 pieces", net.told(3), 154);
    liar.answers(7, 0);
    Rig.same("no room in blocks", net.told(1), 0x05040005);
  }

  private static void blocksThatFail() {
    Liar liar = new Liar();
    ServoNet net = liar.rig.net;
    int[][] opens = {{0, 0x05040002}, {128, 0x05040002}};
    for (int[] d : opens) {
      fill(net, 30);
      net.job(1, 3, 0, false, true);
      liar.answers(command(0xA4, 3, 0), d[0]);
      Rig.same("blocks of " + d[0], net.told(1), d[1]);
    }
    net.job(1, 3, 0, false, true);
    liar.answers(command(0xA4, 4, 0), 8);
    Rig.same("another index", net.told(1), 0x05040001);
    int before = net.count(1);
    net.job(1, 3, 0, false, true);
    liar.answers(command(0xA4, 3, 0), 2);
    Rig.same("two pieces", liar.rig.framesOf(0x602, before).size(), 3);
    liar.answers(0xA2 | 0 << 8 | 3 << 16, 0);
    Rig.same("three from the beginning", liar.rig.framesOf(0x602, before).size(), 6);
    liar.answers(0xA2 | 1 << 8 | 127 << 16, 0);
    List<Long> sent = liar.rig.framesOf(0x602, before);
    Rig.same("the other four", sent.size(), 10);
    Rig.same("the last one", sent.get(9) & 255, 0x84);
    Rig.same("its first byte", sent.get(9) >>> 8 & 255, 28 * 7 + 3);
    liar.answers(0xA2 | 4 << 8 | 1 << 16, 0);
    sent = liar.rig.framesOf(0x602, before);
    Rig.same("the end", sent.get(10) & 255, 0xC1 + 4 * 5);
    liar.answers(0xA1, 0);
    Rig.same("well", net.told(0), WELL);
    int[][] confirms = {{3, 8, 0x05040003}, {3, 0, 0x05040003}, {2, 0, 0x05040002}, {1, 128, 0x05040002}};
    for (int[] d : confirms) {
      net.job(1, 3, 0, false, true);
      liar.answers(command(0xA4, 3, 0), 2);
      liar.answers(0xA2 | d[0] << 8 | d[1] << 16, 0);
      Rig.same("confirmed " + d[0] + " " + d[1], net.told(1), d[2]);
    }
    fill(net, 5);
    net.job(1, 3, 0, false, true);
    liar.answers(command(0xA4, 3, 0), 8);
    liar.answers(0xA2 | 1 << 8, 0);
    Rig.same("the last one came, and blocks of 0", net.told(1), 0x05040002);
    net.job(1, 3, 0, false, true);
    liar.answers(command(0xA4, 3, 0), 8);
    liar.answers(0xA1, 0);
    Rig.same("not 0xA2", net.told(1), 0x05040001);
  }

  private static void piecesThatFail() {
    Liar liar = new Liar();
    ServoNet net = liar.rig.net;
    net.job(1, 3, 0, true, true);
    liar.answers(command(0xC6, 3, 1), 9);
    Rig.same("another sub", net.told(1), 0x05040001);
    int before = net.count(1);
    net.job(1, 3, 0, true, true);
    liar.answers(command(0xC6, 3, 0), 9);
    Rig.same("0xA3", liar.rig.framesOf(0x602, before).get(1), 0xA3);
    liar.answers(2, 0);
    Rig.same("number 2 does not count", net.told(3), 0);
    liar.answers(1 | 5 << 8, 6);
    Rig.same("number 1 does", net.told(3), 7);
    liar.answers(0x81, 0);
    Rig.same("number 1 again does not", net.told(3), 7);
    liar.answers(8, 0);
    List<Long> sent = liar.rig.framesOf(0x602, before);
    Rig.same("number 8 ends the block", sent.get(2), 0xA2 | 1 << 8 | 8 << 16);
    liar.answers(0x88, 0);
    sent = liar.rig.framesOf(0x602, before);
    Rig.same("none counted", sent.get(3), 0xA2 | 0 << 8 | 8 << 16);
    liar.answers(0x81 | 9 << 8, 0);
    sent = liar.rig.framesOf(0x602, before);
    Rig.same("the last one", sent.get(4), 0xA2 | 1 << 8 | 8 << 16);
    int[] bytes = {5, 0, 0, 6, 0, 0, 0, 9, 0, 0, 0, 0, 0, 0};
    int sum = Rig.sum(bytes, 9);
    liar.answers(0xC1 + 4 * 5 | sum << 8, 0);
    Rig.same("well", net.told(0), WELL);
    Rig.same("nine bytes", net.told(3), 9);
    Rig.same("a byte", net.buffer(3), 6);
    Rig.same("0xA1", liar.rig.framesOf(0x602, before).get(5), 0xA1);
    net.job(1, 3, 0, true, true);
    liar.answers(command(0xC6, 3, 0), 9);
    liar.answers(0x81, 0);
    liar.answers(0xC1 | 1 << 8, 0);
    Rig.same("a wrong sum", net.told(1), 0x05040004);
    net.job(1, 3, 0, true, true);
    liar.answers(command(0xC6, 3, 0), 9);
    liar.answers(0x81, 0);
    liar.answers(0xC3, 0);
    Rig.same("no end", net.told(1), 0x05040001);
    net.job(1, 3, 0, true, true);
    liar.answers(command(0xC6, 3, 0), 9);
    liar.answers(0x80, 0x0708);
    Rig.same("0x80 as a piece", net.told(1), 0x0708);
  }

  private static void lostRequests() {
    ServoNet net = new ServoNet(1);
    for (int i = 0; i < 24; i++) {
      net.frame(0, false, 0, 0);
    }
    net.job(0, 0x1000, 0, true, false);
    Rig.same("a request that was lost", net.told(2), 1);
    Rig.same("lost", net.count(2), 1);
  }

  private static void onlyOneJob() {
    Rig rig = Rig.withDrives(1);
    ServoNet net = rig.net;
    net.put(9);
    net.job(0, 0x1008, 0, true, false);
    Rig.notNow("another job", () -> net.job(1, 0x1000, 0, true, false));
    Rig.noIndex("a wrong drive comes first", () -> net.job(4, 0x1000, 0, true, false));
    Rig.noArgument("a wrong index, too", () -> net.job(1, -1, 0, true, false));
    Rig.notNow("put", () -> net.put(1));
    Rig.noArgument("a wrong byte", () -> net.put(300));
    Rig.notNow("clear", () -> net.clear());
    Rig.same("the buffer stays", net.told(3), 1);
    Rig.same("the job, too", net.told(2), 1);
    rig.tick(20);
    Rig.same("well", net.told(0), WELL);
    Rig.same("clear then", net.clear(), 10);
  }

  private static void wrongNumbers() {
    ServoNet net = new ServoNet(1);
    List<Runnable> wrong = new ArrayList<>();
    wrong.add(() -> net.job(0, 65536, 0, true, false));
    wrong.add(() -> net.job(0, -1, 0, true, false));
    wrong.add(() -> net.job(0, 0, 256, true, false));
    wrong.add(() -> net.job(0, 0, -1, true, false));
    for (Runnable call : wrong) {
      Rig.noArgument("a wrong index or sub", call);
    }
    Rig.noIndex("drive -1", () -> net.job(-1, 70000, 0, true, false));
    Rig.noIndex("told 4", () -> net.told(4));
    Rig.noIndex("told -1", () -> net.told(-1));
    Rig.same("there was none", net.told(0), 0);
    Rig.same("nothing was sent", net.station(4, 3), 0);
  }

  private static void oneKindBehindAnother() {
    Rig rig = Rig.withDrives(1);
    fill(rig.net, 9);
    run(rig, TEXT, 0, false, true, WELL);
    fill(rig.net, 2);
    run(rig, TEXT, 0, false, false, WELL);
    Rig.same("in one piece behind blocks", rig.net.entry(0, TEXT, 0), 2);
    run(rig, 0, 0, true, false, ABORTED);
    Rig.same("index 0", rig.net.told(1), 0x06020000);
    Liar liar = new Liar();
    ServoNet net = liar.rig.net;
    fill(net, 9);
    net.job(1, 3, 0, false, false);
    liar.answers(command(0x60, 4, 0), 0);
    Rig.same("0x60 with another index", net.told(1), 0x05040001);
    net.job(1, 3, 0, true, true);
    liar.answers(command(0xC6, 3, 0), 9);
    liar.answers(1, 0);
    liar.answers(2, 0);
    liar.answers(0x80, 1);
    net.job(1, 3, 0, true, true);
    liar.answers(command(0xC6, 3, 0), 9);
    liar.answers(1, 0);
    Rig.same("number 1 counts in another job", net.told(3), 7);
    int[] ends = {0xA1, 0xBD, 0xE1, 0xC0};
    for (int end : ends) {
      liar.answers(0x80, 1);
      net.job(1, 3, 0, true, true);
      liar.answers(command(0xC6, 3, 0), 9);
      liar.answers(0x81, 0);
      liar.answers(end, 0);
      Rig.same("no end", net.told(1), 0x05040001);
    }
  }

  private static void blocksOfOne() {
    Liar liar = new Liar();
    ServoNet net = liar.rig.net;
    fill(net, 9);
    int before = net.count(1);
    net.job(1, 3, 0, false, true);
    liar.answers(command(0xA4, 3, 0), 1);
    Rig.same("one piece", liar.rig.framesOf(0x602, before).size(), 2);
    liar.answers(0xA2 | 1 << 8 | 1 << 16, 0);
    Rig.same("one more", liar.rig.framesOf(0x602, before).get(2) & 255, 0x81);
    liar.answers(0xA2 | 1 << 8 | 127 << 16, 0);
    Rig.same("127 at the end", liar.rig.framesOf(0x602, before).get(3) & 255, 0xC1 + 4 * 5);
    liar.answers(0xA0, 0);
    Rig.same("not 0xA1", net.told(1), 0x05040001);
    net.job(1, 3, 0, false, true);
    liar.answers(command(0xA4, 3, 0), 127);
    Rig.same("127 at first", net.told(0), RUNS);
  }

  private static void exactly160() {
    Liar liar = new Liar();
    ServoNet net = liar.rig.net;
    net.job(1, 3, 0, true, false);
    liar.answers(command(0x41, 3, 0), 160);
    for (int i = 0; i < 22; i++) {
      liar.answers(i % 2 * 16, i);
    }
    liar.answers(0x02 | 1, 0);
    Rig.same("well", net.told(0), WELL);
    Rig.same("160 bytes", net.told(3), 160);
  }

  private static void patienceWithPieces() {
    Liar liar = new Liar();
    ServoNet net = liar.rig.net;
    net.job(1, 3, 0, true, true);
    liar.answers(command(0xC6, 3, 0), 9);
    for (int i = 0; i < 3; i++) {
      liar.rig.tick(250);
      liar.answers(5, i);
    }
    Rig.same("each answer counts", net.told(0), RUNS);
    Rig.same("also one that does not count", net.told(3), 0);
    liar.rig.tick(301);
    Rig.same("then not", net.told(1), 0x05040000);
  }
}
