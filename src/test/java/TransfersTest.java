import java.util.List;

/** Transfers with a drive, by requests written out: section 4 of the terms, and state(.., 3). */
public final class TransfersTest {
  private static final int TEXT = 0x2000;
  private static final int NAME = 0x1008;

  public static void main(String[] args) {
    downInSegments();
    downInSegmentsThatFail();
    noMoreThan160();
    upInSegments();
    upWithoutBytes();
    anotherTransferIsOver();
    abortsEndTheOpenOne();
    downInBlocks();
    piecesThatDoNotCount();
    theEndOfBlocks();
    noMoreThan24Pieces();
    upInBlocks();
    upInBlocksAgain();
    upInBlocksThatFails();
    wrongCommands();
    patience();
    whatIsNoRequest();
    statesThatCount();
    asTheyWereThen();
    wrongOnesWhileOthersAreOpen();
    blocksBeginAnew();
    Rig.end();
  }

  private static long segment(int c, String bytes) {
    long b = c;
    for (int i = 0; i < bytes.length(); i++) {
      b |= (long) bytes.charAt(i) << 8 * (i + 1);
    }
    return b;
  }

  private static void isText(Rig rig, String due) {
    Rig.same("the text's length", rig.net.entry(0, TEXT, 0), due.length());
    for (int i = 0; i < due.length(); i++) {
      Rig.same("the text's letter " + i, rig.net.octet(0, TEXT, 0, i), due.charAt(i));
    }
  }

  private static void downInSegments() {
    Rig rig = Rig.withDrives(1);
    rig.asks("opens", 0, Rig.request(0x21, TEXT, 0, 10), Rig.request(0x60, TEXT, 0, 0));
    Rig.same("a download in segments", rig.net.state(0, 3), 1);
    rig.asks("the first", 0, segment(0x00, "ABCDEFG"), 0x20);
    Rig.same("nothing is written", rig.net.entry(0, TEXT, 0), 0);
    rig.asks("the last", 0, segment(0x10 + 2 * 4 + 1, "HIJxxxx"), 0x30);
    Rig.same("it is over", rig.net.state(0, 3), 0);
    isText(rig, "ABCDEFGHIJ");
    rig.asks("without a number", 0, Rig.request(0x20, TEXT, 0, 77), Rig.request(0x60, TEXT, 0, 0));
    rig.asks("one of no bytes", 0, segment(0x0E, "xxxxxxx"), 0x20);
    rig.asks("one of two", 0, segment(0x1A, "abxxxxx"), 0x30);
    rig.asks("the last of one", 0, segment(0x0D, "cxxxxxx"), 0x20);
    isText(rig, "abc");
    rig.asks("a number, in segments", 0, Rig.request(0x20, 0x6081, 0, 0), Rig.request(0x60, 0x6081, 0, 0));
    rig.asks("its bytes", 0, segment(0x07, "\u0001\u0002\u0000\u0000"), 0x20);
    Rig.same("the number", rig.net.entry(0, 0x6081, 0), 0x201);
    rig.asks("of no bytes", 0, Rig.request(0x21, TEXT, 0, 0), Rig.request(0x60, TEXT, 0, 0));
    rig.asks("the last of none", 0, segment(0x0F, ""), 0x20);
    isText(rig, "");
  }

  private static void downInSegmentsThatFail() {
    Rig rig = Rig.withDrives(1);
    rig.asks("no segment before", 0, segment(0x01, "ABCDEFG"), Rig.aborted(0x4241, 0x43, 0x05040001));
    rig.asks("25 bytes of a text", 0, Rig.request(0x21, TEXT, 0, 25), Rig.aborted(TEXT, 0, 0x06070012));
    rig.asks("2^31 bytes", 0, Rig.request(0x21, TEXT, 0, 0x80000000L), Rig.aborted(TEXT, 0, 0x06070012));
    rig.asks("3 bytes of 4", 0, Rig.request(0x21, 0x6081, 0, 3), Rig.aborted(0x6081, 0, 0x06070013));
    rig.asks("5 bytes of 4", 0, Rig.request(0x21, 0x6081, 0, 5), Rig.aborted(0x6081, 0, 0x06070012));
    rig.asks("what can't be written", 0, Rig.request(0x21, NAME, 0, 99), Rig.aborted(NAME, 0, 0x06010002));
    rig.asks("24 bytes", 0, Rig.request(0x21, TEXT, 0, 24), Rig.request(0x60, TEXT, 0, 0));
    rig.asks("bit 4 in the first", 0, segment(0x10, "ABCDEFG"), Rig.aborted(TEXT, 0, 0x05030000));
    Rig.same("it is over", rig.net.state(0, 3), 0);
    rig.ask(0, Rig.request(0x21, TEXT, 0, 9));
    rig.asks("the first", 0, segment(0x00, "ABCDEFG"), 0x20);
    rig.asks("the same bit again", 0, segment(0x05, "HIxxxxx"), Rig.aborted(TEXT, 0, 0x05030000));
    rig.ask(0, Rig.request(0x21, TEXT, 0, 9));
    rig.ask(0, segment(0x00, "ABCDEFG"));
    rig.asks("more than told", 0, segment(0x18, "HIJxxxx"), Rig.aborted(TEXT, 0, 0x06070012));
    rig.ask(0, Rig.request(0x21, TEXT, 0, 9));
    rig.ask(0, segment(0x00, "ABCDEFG"));
    rig.asks("fewer than told", 0, segment(0x1D, "Hxxxxxx"), Rig.aborted(TEXT, 0, 0x06070013));
    rig.ask(0, Rig.request(0x20, 0x6081, 0, 0));
    rig.asks("fewer than it has", 0, segment(0x09, "abcxxxx"), Rig.aborted(0x6081, 0, 0x06070013));
    rig.ask(0, Rig.request(0x20, 0x6081, 0, 0));
    rig.asks("below the least", 0, segment(0x07, "\0\0\0\0"), Rig.aborted(0x6081, 0, 0x06090032));
    Rig.same("over", rig.net.state(0, 3), 0);
    isText(rig, "");
  }

  private static void noMoreThan160() {
    Rig rig = Rig.withDrives(1);
    rig.ask(0, Rig.request(0x20, 0x2011, 0, 0));
    for (int i = 0; i < 22; i++) {
      rig.asks("segment " + i, 0, segment(i % 2 * 16, "ABCDEFG"), 0x20 + i % 2 * 16);
    }
    rig.asks("160 bytes", 0, segment(0x02, "ABCDEFx"), 0x20);
    rig.asks("none more", 0, segment(0x1E, "xxxxxxx"), 0x30);
    rig.asks("161 bytes", 0, segment(0x0D, "Axxxxxx"), Rig.aborted(0x2011, 0, 0x06070012));
    rig.ask(0, Rig.request(0x20, 0x2011, 0, 0));
    for (int i = 0; i < 20; i++) {
      rig.ask(0, segment(i % 2 * 16, "\0\0\0\0\0\0\0"));
    }
    rig.asks("144 bytes", 0, segment(0x07, "\0\0\0\0xxx"), 0x20);
    Rig.same("a program of 12 steps", rig.net.entry(0, 0x2011, 0), 144);
  }

  private static void upInSegments() {
    Rig rig = Rig.withDrives(1);
    rig.asks("no segment before", 0, Rig.request(0x60, 1, 2, 0), Rig.aborted(1, 2, 0x05040001));
    rig.asks("opens", 0, Rig.request(0x40, NAME, 0, 0), Rig.request(0x41, NAME, 0, 10));
    Rig.same("an upload in segments", rig.net.state(0, 3), 3);
    rig.asks("the first", 0, 0x60, segment(0x00, "servo a"));
    rig.asks("the last", 0, 0x70, segment(0x10 + 8 + 1, "xis"));
    Rig.same("it is over", rig.net.state(0, 3), 0);
    rig.ask(0, Rig.request(0x5F, NAME, 0, 0));
    Rig.same("any command of these opens it", rig.net.state(0, 3), 3);
    rig.asks("bit 4 in the first", 0, 0x70, Rig.aborted(NAME, 0, 0x05030000));
    rig.ask(0, Rig.request(0x40, NAME, 0, 0));
    rig.ask(0, 0x6F);
    rig.asks("no bit 4 in the second", 0, 0x60, Rig.aborted(NAME, 0, 0x05030000));
    rig.asks("over", 0, 0x60, Rig.aborted(0, 0, 0x05040001));
  }

  private static void upWithoutBytes() {
    Rig rig = Rig.withDrives(1);
    rig.asks("opens", 0, Rig.request(0x40, TEXT, 0, 0), Rig.request(0x41, TEXT, 0, 0));
    rig.asks("the only one", 0, 0x60, 0x0F);
    Rig.same("it is over", rig.net.state(0, 3), 0);
  }

  private static void anotherTransferIsOver() {
    Rig rig = Rig.withDrives(1);
    rig.ask(0, Rig.request(0x40, NAME, 0, 0));
    rig.asks("a download in one piece", 0, Rig.request(0x2F, TEXT, 0, 65), Rig.request(0x60, TEXT, 0, 0));
    Rig.same("lets it be over", rig.net.state(0, 3), 0);
    rig.ask(0, Rig.request(0x40, NAME, 0, 0));
    rig.asks("one that fails has its own index", 0, Rig.request(0x21, 0x3000, 7, 0), Rig.aborted(0x3000, 7, 0x06020000));
    Rig.same("and the other is over", rig.net.state(0, 3), 0);
    rig.ask(0, Rig.request(0x20, TEXT, 0, 0));
    rig.asks("an upload in one piece", 0, Rig.request(0x40, 0x1001, 0, 0), Rig.request(0x4F, 0x1001, 0, 0));
    Rig.same("likewise", rig.net.state(0, 3), 0);
    rig.ask(0, Rig.request(0x20, TEXT, 0, 0));
    rig.asks("0x80 ends it without a word", 0, Rig.aborted(TEXT, 0, 0), Rig.NO_ANSWER);
    Rig.same("over", rig.net.state(0, 3), 0);
    rig.ask(0, Rig.request(0x40, NAME, 0, 0));
    rig.asks("so does 0x9F", 0, 0x9F, Rig.NO_ANSWER);
    Rig.same("over, too", rig.net.state(0, 3), 0);
    rig.asks("0x80 without one", 0, 0x80, Rig.NO_ANSWER);
  }

  private static void abortsEndTheOpenOne() {
    Rig rig = Rig.withDrives(1);
    int[] wrong = {0x60, 0xA1, 0xA3, 0xBF, 0xE0, 0xFF};
    for (int c : wrong) {
      rig.ask(0, Rig.request(0x20, TEXT, 0, 0));
      rig.asks("the index of the one it ends", 0, Rig.request(c, 0x1234, 5, 0), Rig.aborted(TEXT, 0, 0x05040001));
      Rig.same("over", rig.net.state(0, 3), 0);
      rig.asks("the index of the request", 0, Rig.request(c, 0x1234, 5, 0), Rig.aborted(0x1234, 5, 0x05040001));
    }
    rig.ask(0, Rig.request(0x40, NAME, 0, 0));
    rig.asks("a segment down while one goes up", 0, 0x01, Rig.aborted(NAME, 0, 0x05040001));
  }

  private static int sumOf(String bytes) {
    int[] row = new int[bytes.length()];
    for (int i = 0; i < row.length; i++) {
      row[i] = bytes.charAt(i);
    }
    return Rig.sum(row, row.length);
  }

  private static long endOf(int n, int sum) {
    return 0xC1 + 4 * n | (long) sum << 8;
  }

  private static long confirmed(int last) {
    return 0xA2 | last << 8 | 8 << 16;
  }

  private static void downInBlocks() {
    Rig rig = Rig.withDrives(1);
    rig.asks("opens", 0, Rig.request(0xC2, TEXT, 0, 10), Rig.request(0xA4, TEXT, 0, 8));
    Rig.same("a download in blocks", rig.net.state(0, 3), 2);
    rig.asks("a piece", 0, segment(1, "ABCDEFG"), Rig.NO_ANSWER);
    rig.asks("the last one", 0, segment(0x82, "HIJ"), confirmed(2));
    rig.asks("the end", 0, endOf(4, sumOf("ABCDEFGHIJ")), 0xA1);
    Rig.same("it is over", rig.net.state(0, 3), 0);
    isText(rig, "ABCDEFGHIJ");
    rig.asks("without a number, any bits 2 to 4", 0, Rig.request(0xDC, TEXT, 0, 99), Rig.request(0xA4, TEXT, 0, 8));
    rig.asks("the only one", 0, segment(0x81, ""), confirmed(1));
    rig.asks("without bytes", 0, endOf(7, 0), 0xA1);
    isText(rig, "");
    rig.asks("bit 0", 0, Rig.request(0xC1, TEXT, 3, 0), Rig.aborted(TEXT, 3, 0x05040001));
    rig.asks("no index", 0, Rig.request(0xC2, 0x3000, 3, 0), Rig.aborted(0x3000, 3, 0x06020000));
    rig.asks("not written", 0, Rig.request(0xC2, NAME, 0, 0), Rig.aborted(NAME, 0, 0x06010002));
    rig.asks("too many", 0, Rig.request(0xC6, TEXT, 0, 25), Rig.aborted(TEXT, 0, 0x06070012));
    rig.asks("2^31 and more", 0, Rig.request(0xC6, TEXT, 0, 0xFFFFFFFFL), Rig.aborted(TEXT, 0, 0x06070012));
    rig.asks("too few", 0, Rig.request(0xC6, 0x6081, 0, 3), Rig.aborted(0x6081, 0, 0x06070013));
  }

  private static void piecesThatDoNotCount() {
    Rig rig = Rig.withDrives(1);
    rig.ask(0, Rig.request(0xC0, TEXT, 0, 0));
    rig.asks("number 0", 0, segment(0, "xxxxxxx"), Rig.NO_ANSWER);
    rig.asks("number 2 at first", 0, segment(0x82, "xxxxxxx"), Rig.NO_ANSWER);
    rig.asks("number 1", 0, segment(1, "ABCDEFG"), Rig.NO_ANSWER);
    rig.asks("number 1 again", 0, segment(0x81, "xxxxxxx"), Rig.NO_ANSWER);
    rig.asks("number 9", 0, segment(9, "xxxxxxx"), Rig.NO_ANSWER);
    rig.asks("what would open others", 0, Rig.request(0x40, NAME, 0, 0), Rig.NO_ANSWER);
    rig.asks("number 8 that does not count ends the block", 0, segment(0x88, "xxxxxxx"), confirmed(1));
    rig.asks("none counts", 0, segment(8, "xxxxxxx"), confirmed(0));
    rig.asks("the next block begins at 1", 0, segment(1, "HIJKLMN"), Rig.NO_ANSWER);
    for (int i = 2; i < 8; i++) {
      rig.ask(0, segment(i, "abcdefg"));
    }
    rig.asks("number 8 that counts", 0, segment(8, "abcdefg"), confirmed(8));
    rig.asks("0x80 ends it", 0, 0x80, Rig.NO_ANSWER);
    Rig.same("over", rig.net.state(0, 3), 0);
    rig.ask(0, Rig.request(0xC0, TEXT, 0, 0));
    rig.asks("0x81 is a piece", 0, segment(0x81, "ABCDEFG"), confirmed(1));
    rig.asks("0x80 instead of the end", 0, 0x80, Rig.NO_ANSWER);
    Rig.same("over, too", rig.net.state(0, 3), 0);
    isText(rig, "");
  }

  private static void theEndOfBlocks() {
    Rig rig = Rig.withDrives(1);
    int[] wrong = {0xC0, 0xC2, 0xC3, 0xE1, 0xA1, 0x81, 0x01, 0xDE};
    for (int c : wrong) {
      rig.ask(0, Rig.request(0xC0, TEXT, 0, 0));
      rig.ask(0, segment(0x81, "ABCDEFG"));
      rig.asks("no end", 0, c, Rig.aborted(TEXT, 0, 0x05040001));
    }
    rig.ask(0, Rig.request(0xC0, TEXT, 0, 0));
    rig.ask(0, segment(0x81, "ABCDEFG"));
    rig.asks("a wrong sum", 0, endOf(0, sumOf("ABCDEFG") ^ 1), Rig.aborted(TEXT, 0, 0x05040004));
    rig.ask(0, Rig.request(0xC2, TEXT, 0, 6));
    rig.ask(0, segment(0x81, "ABCDEFG"));
    rig.asks("more than told", 0, endOf(0, sumOf("ABCDEFG")), Rig.aborted(TEXT, 0, 0x06070012));
    rig.ask(0, Rig.request(0xC2, TEXT, 0, 6));
    rig.ask(0, segment(0x81, "ABCDEFG"));
    rig.asks("fewer than told", 0, endOf(2, sumOf("ABCDE")), Rig.aborted(TEXT, 0, 0x06070013));
    rig.ask(0, Rig.request(0xC0, 0x6060, 0, 0));
    rig.ask(0, segment(0x81, "\u0002"));
    rig.asks("the codes of writing", 0, endOf(6, sumOf("\u0002")), Rig.aborted(0x6060, 0, 0x06090030));
    rig.ask(0, Rig.request(0xC0, 0x6060, 0, 0));
    rig.ask(0, segment(0x81, "\u0003"));
    rig.asks("one byte", 0, endOf(6, sumOf("\u0003")), 0xA1);
    Rig.same("it is written", rig.net.entry(0, 0x6060, 0), 3);
  }

  private static void noMoreThan24Pieces() {
    Rig rig = Rig.withDrives(1);
    StringBuilder all = new StringBuilder();
    rig.ask(0, Rig.request(0xC0, 0x2011, 0, 0));
    for (int i = 0; i < 24; i++) {
      String seven = "abcdef" + (char) ('A' + i);
      all.append(seven);
      long due = i % 8 == 7 ? confirmed(8) : Rig.NO_ANSWER;
      rig.asks("piece " + i, 0, segment(i == 23 ? 0x88 : i % 8 + 1, seven), due);
    }
    rig.asks("168 bytes less 7 are too many", 0, endOf(7, sumOf(all.substring(0, 161))),
        Rig.aborted(0x2011, 0, 0x06070012));
    rig.ask(0, Rig.request(0xC0, 0x2011, 0, 0));
    for (int i = 0; i < 24; i++) {
      rig.ask(0, segment(i % 8 + 1, "abcdefg"));
    }
    rig.asks("one that does not count", 0, segment(2, "xxxxxxx"), Rig.NO_ANSWER);
    rig.asks("one more that counts", 0, segment(1, "xxxxxxx"), Rig.aborted(0x2011, 0, 0x06070012));
  }

  private static void fill(Rig rig, String text) {
    rig.ask(0, Rig.request(0x21, TEXT, 0, text.length()));
    for (int at = 0; at < text.length(); at += 7) {
      String seven = text.substring(at, Math.min(at + 7, text.length()));
      boolean last = at + 7 >= text.length();
      rig.ask(0, segment(at / 7 % 2 * 16 + 2 * (7 - seven.length()) + (last ? 1 : 0), seven));
    }
    isText(rig, text);
  }

  private static void pieces(String what, Rig rig, int behind, long... due) {
    List<Long> found = rig.framesOf(0x581, behind);
    Rig.same(what + ": how many", found.size(), due.length);
    for (int i = 0; i < Math.min(found.size(), due.length); i++) {
      Rig.same(what + ": piece " + i, found.get(i), due[i]);
    }
  }

  private static void upInBlocks() {
    Rig rig = Rig.withDrives(1);
    String text = "abcdefghijklmnopqrs";
    fill(rig, text);
    rig.asks("opens", 0, Rig.request(0xA0, TEXT, 0, 2), Rig.request(0xC6, TEXT, 0, 19));
    Rig.same("an upload in blocks", rig.net.state(0, 3), 4);
    int before = rig.net.count(1);
    rig.ask(0, 0xA3);
    pieces("the first block", rig, before, segment(1, "abcdefg"), segment(2, "hijklmn"));
    before = rig.net.count(1);
    rig.ask(0, 0xA2 | 2 << 8 | 16 << 16);
    pieces("the second", rig, before, segment(0x81, "opqrs"));
    rig.asks("the last one came", 0, 0xA2 | 1 << 8 | 1 << 16, endOf(2, sumOf(text)));
    rig.asks("over", 0, 0xA1, Rig.NO_ANSWER);
    Rig.same("it is", rig.net.state(0, 3), 0);
  }

  private static void upInBlocksAgain() {
    Rig rig = Rig.withDrives(1);
    rig.asks("without bytes", 0, Rig.request(0xA4, TEXT, 0, 16), Rig.request(0xC6, TEXT, 0, 0));
    rig.asks("one piece", 0, 0xA3, 0x81);
    rig.asks("it did not come", 0, 0xA2 | 0 << 8 | 3 << 16, 0x81);
    rig.asks("it came", 0, 0xA2 | 1 << 8 | 3 << 16, 0xDD);
    rig.ask(0, 0xA1);
    rig.asks("a number", 0, Rig.request(0xA4, 0x6081, 0, 1), Rig.request(0xC6, 0x6081, 0, 4));
    rig.asks("in one piece", 0, 0xA3, segment(0x81, "\u00E8\u0003"));
    fill(rig, "abcdefghijklmnopqrstuvwx");
    rig.ask(0, Rig.request(0xA4, TEXT, 0, 3));
    rig.ask(0, 0xA3);
    int before = rig.net.count(1);
    rig.ask(0, 0xA2 | 1 << 8 | 2 << 16);
    pieces("behind the last one that came", rig, before, segment(1, "hijklmn"), segment(2, "opqrstu"));
    before = rig.net.count(1);
    rig.ask(0, 0xA2 | 2 << 8 | 2 << 16);
    pieces("the rest", rig, before, segment(0x81, "vwx"));
  }

  private static void upInBlocksThatFails() {
    Rig rig = Rig.withDrives(1);
    rig.asks("no index", 0, Rig.request(0xA0, 0x3000, 0, 0), Rig.aborted(0x3000, 0, 0x06020000));
    rig.asks("no sub", 0, Rig.request(0xA0, TEXT, 1, 0), Rig.aborted(TEXT, 1, 0x06090011));
    rig.asks("blocks of 0", 0, Rig.request(0xA0, NAME, 0, 0), Rig.aborted(NAME, 0, 0x05040002));
    rig.asks("blocks of 17", 0, Rig.request(0xA4, NAME, 0, 17), Rig.aborted(NAME, 0, 0x05040002));
    Rig.same("none is open", rig.net.state(0, 3), 0);
    int[] wrong = {0xA2, 0xA1, 0xA0, 0xA4, 0xBF, 0xE0, 0x00, 0x60};
    for (int c : wrong) {
      rig.ask(0, Rig.request(0xA0, NAME, 0, 4));
      rig.asks("not 0xA3", 0, Rig.request(c, 0x1018, 1, 1), Rig.aborted(NAME, 0, 0x05040001));
    }
    rig.ask(0, Rig.request(0xA0, NAME, 0, 4));
    rig.ask(0, 0xA3);
    rig.asks("0xA3 again", 0, 0xA3, Rig.aborted(NAME, 0, 0x05040001));
    rig.ask(0, Rig.request(0xA0, NAME, 0, 4));
    rig.ask(0, 0xA3);
    rig.asks("more than were sent", 0, 0xA2 | 3 << 8, Rig.aborted(NAME, 0, 0x05040003));
    rig.ask(0, Rig.request(0xA0, NAME, 0, 4));
    rig.ask(0, 0xA3);
    rig.asks("all of them, and blocks of 0", 0, 0xA2 | 2 << 8, Rig.aborted(NAME, 0, 0x05040002));
    rig.ask(0, Rig.request(0xA0, NAME, 0, 1));
    rig.ask(0, 0xA3);
    rig.asks("blocks of 17", 0, 0xA2 | 1 << 8 | 17 << 16, Rig.aborted(NAME, 0, 0x05040002));
    rig.ask(0, Rig.request(0xA0, NAME, 0, 4));
    rig.asks("0x90 ends it", 0, 0x90, Rig.NO_ANSWER);
    Rig.same("over", rig.net.state(0, 3), 0);
    rig.ask(0, Rig.request(0xA0, NAME, 0, 4));
    rig.asks("others begin", 0, Rig.request(0x40, 0x1001, 0, 0), Rig.request(0x4F, 0x1001, 0, 0));
    rig.ask(0, Rig.request(0xA0, NAME, 0, 4));
    rig.asks("others in blocks, too", 0, Rig.request(0xC0, TEXT, 0, 0), Rig.request(0xA4, TEXT, 0, 8));
    Rig.same("one is open", rig.net.state(0, 3), 2);
  }

  private static void wrongCommands() {
    Rig rig = Rig.withDrives(1);
    for (int c = 0xA1; c <= 0xFF; c++) {
      if (c != 0xA4 && (c < 0xC0 || c > 0xDF)) {
        rig.asks("command " + c, 0, Rig.request(c, 0x2000, 0, 1), Rig.aborted(0x2000, 0, 0x05040001));
      }
    }
  }

  private static void patience() {
    Rig rig = Rig.withDrives(1);
    rig.ask(0, Rig.request(0x40, NAME, 0, 0));
    int before = rig.net.count(1);
    // The request came in the tick before the last one.
    rig.tick(199);
    Rig.same("200 ticks went by", rig.net.state(0, 3), 3);
    rig.tick(1);
    Rig.same("201 ticks", rig.net.state(0, 3), 0);
    rig.tick(1);
    pieces("its abort", rig, before, Rig.aborted(NAME, 0, 0x05040000));
    rig.ask(0, Rig.request(0xC0, TEXT, 0, 0));
    rig.tick(150);
    rig.asks("a piece that does not count", 0, 5, Rig.NO_ANSWER);
    rig.tick(199);
    Rig.same("it counts for the patience", rig.net.state(0, 3), 2);
    rig.tick(1);
    Rig.same("which ends", rig.net.state(0, 3), 0);
  }

  private static void whatIsNoRequest() {
    Rig rig = Rig.withDrives(2);
    int before = rig.net.count(1);
    rig.net.frame(0x601, false, 7, Rig.request(0x40, 0x1001, 0, 0));
    rig.net.frame(0x601, true, 8, 0);
    rig.net.frame(0x605, false, 8, Rig.request(0x40, 0x1001, 0, 0));
    rig.net.frame(0x602, false, 8, Rig.request(0x40, 0x1014, 0, 0));
    rig.tick(3);
    Rig.same("one is answered", rig.net.count(1) - before, 5);
    Rig.same("by drive 1", rig.framesOf(0x582, before).get(0), Rig.request(0x43, 0x1014, 0, 130));
  }

  private static void statesThatCount() {
    Rig rig = Rig.withDrives(1);
    rig.ask(0, Rig.request(0x40, NAME, 0, 0));
    rig.operate(0);
    Rig.same("it goes on", rig.net.state(0, 3), 3);
    rig.order(128, 0);
    Rig.same("and on", rig.net.state(0, 3), 3);
    int before = rig.net.count(1);
    rig.order(2, 1);
    Rig.same("it goes with STOPPED", rig.net.state(0, 3), 0);
    rig.asks("no answer in STOPPED", 0, Rig.request(0x40, 0x1001, 0, 0), Rig.NO_ANSWER);
    Rig.same("without a word", rig.framesOf(0x581, before).size(), 0);
    rig.operate(0);
    rig.asks("an answer in OPERATIONAL", 0, Rig.request(0x40, 0x1001, 0, 0), Rig.request(0x4F, 0x1001, 0, 0));
  }

  private static void asTheyWereThen() {
    Rig rig = Rig.withDrives(1);
    rig.tick(3);
    long size = rig.net.entry(0, 0x2010, 0);
    rig.ask(0, Rig.request(0x40, 0x2010, 0, 0));
    rig.net.hand(0, 500, false);
    rig.tick(60);
    long answer = rig.ask(0, 0x60);
    Rig.same("the trace as it was", answer & 0xFF, 0);
    Rig.same("its bytes", answer >>> 8, 0);
    Rig.same("four ticks", size, 16);
    Rig.same("the trace now", rig.net.octet(0, 0x2010, 0, 0), 500 & 255);
  }

  private static void wrongOnesWhileOthersAreOpen() {
    Rig rig = Rig.withDrives(1);
    long[] opens = {Rig.request(0x40, NAME, 0, 0), Rig.request(0x20, TEXT, 0, 0), Rig.request(0xA0, NAME, 0, 4)};
    for (int i = 0; i < 3; i++) {
      rig.ask(0, opens[i]);
      rig.asks("up", 0, Rig.request(0x40, 0x3000, 2, 0), Rig.aborted(0x3000, 2, 0x06020000));
      rig.ask(0, opens[i]);
      rig.asks("down in blocks", 0, Rig.request(0xC1, 0x3000, 2, 0), Rig.aborted(0x3000, 2, 0x05040001));
      if (i < 2) {
        rig.ask(0, opens[i]);
        rig.asks("up in blocks", 0, Rig.request(0xA4, 0x3000, 2, 0), Rig.aborted(0x3000, 2, 0x06020000));
        rig.ask(0, opens[i]);
        rig.asks("up in blocks of 0", 0, Rig.request(0xA4, 0x1000, 0, 0), Rig.aborted(0x1000, 0, 0x05040002));
      }
      Rig.same("over", rig.net.state(0, 3), 0);
    }
  }

  private static void blocksBeginAnew() {
    Rig rig = Rig.withDrives(1);
    rig.ask(0, Rig.request(0xC0, TEXT, 0, 0));
    rig.ask(0, segment(1, "ABCDEFG"));
    rig.ask(0, segment(2, "ABCDEFG"));
    rig.ask(0, 0x80);
    rig.ask(0, Rig.request(0xC0, TEXT, 0, 0));
    rig.asks("number 1 counts", 0, segment(0x81, "HIJKLMN"), confirmed(1));
    rig.asks("the end", 0, endOf(1, sumOf("HIJKLM")), 0xA1);
    isText(rig, "HIJKLM");
    rig.ask(0, Rig.request(0xA0, NAME, 0, 1));
    rig.ask(0, 0xA3);
    rig.ask(0, 0xA2 | 1 << 8 | 1 << 16);
    rig.ask(0, 0x80);
    rig.ask(0, Rig.request(0xA0, NAME, 0, 1));
    rig.asks("from the beginning", 0, 0xA3, segment(1, "servo a"));
    rig.ask(0, 0x80);
    rig.ask(0, Rig.request(0x40, NAME, 0, 0));
    rig.ask(0, 0x60);
    rig.ask(0, Rig.request(0x40, NAME, 0, 0));
    rig.asks("segments, too", 0, 0x60, segment(0, "servo a"));
    rig.ask(0, Rig.request(0x20, TEXT, 0, 0));
    rig.ask(0, segment(0, "ABCDEFG"));
    rig.ask(0, Rig.request(0x20, TEXT, 0, 0));
    rig.asks("and those down", 0, segment(0x0B, "XY"), 0x20);
    isText(rig, "XY");
  }
}
