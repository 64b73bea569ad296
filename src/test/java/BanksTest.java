/** What is kept: section 10 of the terms, and promises 10, 13 and 14. */
public final class BanksTest {
  private static final long SAVE = 0x65766173L;
  private static final long LOAD = 0x64616F6CL;
  private static final int EMPTY = 403;

  // All entries with s, by index and sub, with how many bytes each has.
  private static final String KEPT = "1005:4 1006:4 1015:2 1016:4,4 1017:2 1029:1 "
      + "1400:4,1,2 1401:4,1,2 1402:4,1,2 1403:4,1,2 "
      + "1600:1,4,4,4,4 1601:1,4,4,4,4 1602:1,4,4,4,4 1603:1,4,4,4,4 "
      + "1800:4,1,2,2 1801:4,1,2,2 1802:4,1,2,2 1803:4,1,2,2 "
      + "1A00:1,4,4,4,4 1A01:1,4,4,4,4 1A02:1,4,4,4,4 1A03:1,4,4,4,4 "
      + "2000:0 2011:0 2012:1 605A:2 605B:2 605C:2 605D:2 605E:2 6060:1 6065:4 6066:2 6067:4 6068:2 "
      + "607C:4 607D:4,4 607F:4 6081:4 6083:4 6084:4 6085:4 6098:1 6099:4,4 609A:4 60B8:2";

  public static void main(String[] args) {
    theWords();
    theImage();
    theImageWithRows();
    sixteenBytesEachTime();
    oneBankThenTheOther();
    whichBankCounts();
    imagesThatDoNotCount();
    powerFails();
    entriesAreTaken();
    entriesThatCannotBe();
    mapsThatCannotBe();
    defaultsAreWanted();
    defaultsAndSaves();
    order130AndBanks();
    theNumberGoesRound();
    wrongNumbers();
    rightSumsOfNoImages();
    rowsAndOrder130();
    Rig.end();
  }

  private static void save(Rig rig) {
    rig.set(0, 0x1010, 1, SAVE, 4);
    rig.tick(45);
    Rig.same("saved", rig.net.state(0, 4), 0);
  }

  private static void reboot(Rig rig) {
    rig.net.power(0, false);
    rig.net.power(0, true);
    rig.net.tick(1);
  }

  private static int[] image(Rig rig, int bank) {
    int length = rig.net.bank(0, bank, 6) + 256 * rig.net.bank(0, bank, 7);
    int[] image = new int[length];
    for (int i = 0; i < length; i++) {
      image[i] = rig.net.bank(0, bank, i);
    }
    return image;
  }

  /** An image is written to a bank by hand, with its right length and SUM. */
  private static void writeImage(Rig rig, int bank, int[] image) {
    int end = image.length - 2;
    image[6] = image.length & 255;
    image[7] = image.length >>> 8;
    int sum = Rig.sum(image, end);
    image[end] = sum & 255;
    image[end + 1] = sum >>> 8;
    for (int i = 0; i < image.length; i++) {
      rig.net.scratch(0, bank, i, image[i]);
    }
  }

  /** Where the bytes of an entry begin in an image without texts and steps: behind their number. */
  private static int at(int index, int nth) {
    int at = 8;
    for (String entry : KEPT.split(" ")) {
      String[] part = entry.split(":");
      String[] bytes = part[1].split(",");
      for (int i = 0; i < bytes.length; i++) {
        if (Integer.parseInt(part[0], 16) == index && i == nth) {
          return at + 1;
        }
        at += 1 + Integer.parseInt(bytes[i]);
      }
    }
    return index < 0 ? at : -1;
  }

  private static void theWords() {
    Rig rig = Rig.withDrives(1);
    Rig.same("another number", rig.write(0, 0x1010, 1, SAVE + 1, 4), 0x08000020);
    Rig.same("it does not save", rig.net.state(0, 4), 0);
    rig.set(0, 0x1010, 1, SAVE, 4);
    Rig.same("while it saves", rig.write(0, 0x1010, 1, SAVE, 4), 0x08000020);
    Rig.same("what is written is not had", rig.net.entry(0, 0x1010, 1), 1);
    Rig.same("another number", rig.write(0, 0x1011, 1, SAVE, 4), 0x08000020);
    Rig.same("not wanted", rig.net.state(0, 5), 0);
    rig.set(0, 0x1011, 1, LOAD, 4);
    Rig.same("wanted", rig.net.state(0, 5), 1);
    Rig.same("again", rig.write(0, 0x1011, 1, LOAD, 4), 0);
    Rig.same("it is not had", rig.net.entry(0, 0x1011, 1), 1);
  }

  private static void theImage() {
    Rig rig = Rig.withDrives(1);
    save(rig);
    Rig.same("how long", at(-1, 0) + 2, EMPTY);
    int[] image = image(rig, 0);
    Rig.same("its length", image.length, EMPTY);
    Rig.same("0xA5", image[0], 0xA5);
    Rig.same("0x5A", image[1], 0x5A);
    Rig.same("the number", image[2] + image[3] + image[4] + image[5], 1);
    Rig.same("the sum", image[EMPTY - 2] + 256 * image[EMPTY - 1], Rig.sum(image, EMPTY - 2));
    Rig.same("behind it nothing", rig.net.bank(0, 0, EMPTY), 255);
    for (String entry : KEPT.split(" ")) {
      String[] part = entry.split(":");
      int index = Integer.parseInt(part[0], 16);
      String[] bytes = part[1].split(",");
      int[] subs = subsOf(index, bytes.length);
      for (int i = 0; i < bytes.length; i++) {
        int n = Integer.parseInt(bytes[i]);
        int at = at(index, i);
        Rig.same("how many bytes " + part[0], image[at - 1], n);
        for (int j = 0; j < n; j++) {
          Rig.same("a byte of " + part[0], image[at + j], rig.net.octet(0, index, subs[i], j));
        }
      }
    }
  }

  private static int[] subsOf(int index, int n) {
    switch (index & 0xFFFC) {
      case 0x1400: return new int[] {1, 2, 5};
      case 0x1600:
      case 0x1A00: return new int[] {0, 1, 2, 3, 4};
      case 0x1800: return new int[] {1, 2, 3, 5};
      default: return n == 2 || index == 0x1029 ? new int[] {1, 2} : new int[] {0};
    }
  }

  private static void theImageWithRows() {
    Rig rig = Rig.withDrives(1);
    for (int i = 0; i < 144; i++) {
      rig.net.put(i);
    }
    rig.net.job(0, 0x2011, 0, false, true);
    rig.tick(30);
    rig.net.clear();
    for (int i = 0; i < 24; i++) {
      rig.net.put(65 + i);
    }
    rig.net.job(0, 0x2000, 0, false, false);
    rig.tick(30);
    rig.set(0, 0x1010, 1, SAVE, 4);
    rig.tick(40);
    Rig.same("a longer one", image(rig, 0).length, EMPTY + 168);
    int at = at(0x2000, 0);
    Rig.same("24 bytes", rig.net.bank(0, 0, at - 1), 24);
    Rig.same("the last one", rig.net.bank(0, 0, at + 23), 65 + 23);
    Rig.same("144 bytes", rig.net.bank(0, 0, at + 24), 144);
    Rig.same("the last of these", rig.net.bank(0, 0, at + 24 + 144), 143);
    reboot(rig);
    Rig.same("the text is kept", rig.net.entry(0, 0x2000, 0), 24);
    Rig.same("its last byte", rig.net.octet(0, 0x2000, 0, 23), 65 + 23);
    Rig.same("the program is kept", rig.net.entry(0, 0x2011, 0), 144);
    Rig.same("its last byte", rig.net.octet(0, 0x2011, 0, 143), 143);
  }

  private static void sixteenBytesEachTime() {
    Rig rig = Rig.withDrives(1);
    rig.net.frame(0x601, false, 8, Rig.request(0x23, 0x1010, 1, SAVE));
    rig.net.tick(1);
    Rig.same("not in the tick in which it begins", rig.net.state(0, 4), EMPTY);
    Rig.same("nothing is there", rig.net.bank(0, 0, 0), 255);
    rig.net.tick(1);
    Rig.same("sixteen", rig.net.state(0, 4), EMPTY - 16);
    Rig.same("the first", rig.net.bank(0, 0, 0), 0xA5);
    Rig.same("the next is not", rig.net.bank(0, 0, 16), 255);
    rig.net.tick(24);
    Rig.same("three are left", rig.net.state(0, 4), 3);
    Rig.same("it does not count", rig.net.state(0, 6), -1);
    rig.net.tick(1);
    Rig.same("done", rig.net.state(0, 4), 0);
    Rig.same("it counts", rig.net.state(0, 6), 0);
    rig.set(0, 0x6081, 0, 4, 4);
    rig.net.frame(0x601, false, 8, Rig.request(0x23, 0x1010, 1, SAVE));
    rig.net.tick(1);
    rig.set(0, 0x6081, 0, 5, 4);
    rig.tick(40);
    reboot(rig);
    Rig.same("the entries as they were then", rig.net.entry(0, 0x6081, 0), 4);
  }

  private static void oneBankThenTheOther() {
    Rig rig = Rig.withDrives(1);
    for (int i = 1; i <= 4; i++) {
      rig.set(0, 0x6081, 0, 100 + i, 4);
      save(rig);
      int bank = (i + 1) % 2;
      Rig.same("the bank", rig.net.state(0, 6), bank);
      Rig.same("its number", rig.net.bank(0, bank, 2), i);
      reboot(rig);
      Rig.same("it is taken", rig.net.entry(0, 0x6081, 0), 100 + i);
    }
    Rig.same("the other one is there still", rig.net.bank(0, 0, 2), 3);
    rig.net.scratch(0, 1, 100, rig.net.bank(0, 1, 100) ^ 1);
    Rig.same("the other counts", rig.net.state(0, 6), 0);
    reboot(rig);
    Rig.same("and is taken", rig.net.entry(0, 0x6081, 0), 103);
    save(rig);
    Rig.same("into the one that does not count", rig.net.state(0, 6), 1);
    Rig.same("its number", rig.net.bank(0, 1, 2), 4);
    rig.net.scratch(0, 0, 1, 0);
    save(rig);
    Rig.same("bank 0 again", rig.net.state(0, 6), 0);
  }

  private static void whichBankCounts() {
    Rig rig = Rig.withDrives(1);
    save(rig);
    int[] image = image(rig, 0);
    int[][] numbers = {{1, 0, 1, 0, 0}, {1, 0, 2, 0, 1}, {255, 255, 1, 0, 0}, {255, 127, 0, 128, 1},
      {0, 128, 255, 127, 0}, {0, 0, 0, 0, 0}};
    for (int[] n : numbers) {
      image[2] = n[0];
      image[5] = n[1];
      writeImage(rig, 0, image);
      image[2] = n[2];
      image[5] = n[3];
      writeImage(rig, 1, image);
      Rig.same("the greater number, without sign", rig.net.state(0, 6), n[4]);
    }
    rig.net.power(0, false);
    Rig.same("without power, too", rig.net.state(0, 6), 0);
  }

  private static void imagesThatDoNotCount() {
    Rig rig = Rig.withDrives(1);
    save(rig);
    int[] good = image(rig, 0);
    int[] places = {0, 1, 2, 6, 7, 8, 9, 50, EMPTY - 3, EMPTY - 2, EMPTY - 1};
    for (int at : places) {
      int before = rig.net.scratch(0, 0, at, good[at] ^ 4);
      Rig.same("what it was", before, good[at]);
      Rig.same("byte " + at + " is another", rig.net.state(0, 6), -1);
      rig.net.scratch(0, 0, at, before);
      Rig.same("as it was", rig.net.state(0, 6), 0);
    }
    int[] shorter = java.util.Arrays.copyOf(good, EMPTY - 3);
    writeImage(rig, 0, shorter);
    Rig.same("without the last entry", rig.net.state(0, 6), -1);
    int[] longer = java.util.Arrays.copyOf(good, EMPTY + 1);
    writeImage(rig, 0, longer);
    Rig.same("a byte more", rig.net.state(0, 6), -1);
    int[] wide = java.util.Arrays.copyOf(good, EMPTY);
    wide[at(0x1005, 0) - 1] = 3;
    writeImage(rig, 0, wide);
    Rig.same("another number of bytes", rig.net.state(0, 6), -1);
    int[] bare = new int[11];
    bare[0] = 0xA5;
    bare[1] = 0x5A;
    writeImage(rig, 0, bare);
    Rig.same("eleven bytes", rig.net.state(0, 6), -1);
    int[] text = with(good, at(0x2000, 0), 24);
    writeImage(rig, 0, text);
    Rig.same("a text of 24", rig.net.state(0, 6), 0);
    writeImage(rig, 0, with(good, at(0x2000, 0), 25));
    Rig.same("a text of 25", rig.net.state(0, 6), -1);
    writeImage(rig, 0, with(good, at(0x2011, 0), 143));
    Rig.same("a program of 143 bytes", rig.net.state(0, 6), 0);
    reboot(rig);
    Rig.same("counts, but is not taken", rig.net.entry(0, 0x2011, 0), 0);
    writeImage(rig, 0, with(good, at(0x2011, 0), 145));
    Rig.same("a program of 145 bytes", rig.net.state(0, 6), -1);
    writeImage(rig, 0, with(good, at(0x2011, 0), 36));
    reboot(rig);
    Rig.same("one of three steps is taken", rig.net.entry(0, 0x2011, 0), 36);
  }

  /** An image with a row of so many bytes 7 that was empty. */
  private static int[] with(int[] image, int at, int n) {
    int[] longer = new int[image.length + n];
    System.arraycopy(image, 0, longer, 0, at);
    java.util.Arrays.fill(longer, at, at + n, 7);
    System.arraycopy(image, at, longer, at + n, image.length - at);
    longer[at - 1] = n;
    return longer;
  }

  private static void powerFails() {
    Rig rig = Rig.withDrives(1);
    rig.set(0, 0x6081, 0, 11, 4);
    save(rig);
    rig.set(0, 0x6081, 0, 12, 4);
    for (int ticks = 1; ticks < 25; ticks += 6) {
      rig.set(0, 0x1010, 1, SAVE, 4);
      rig.tick(ticks);
      rig.net.power(0, false);
      Rig.same("it is cut", rig.net.state(0, 4), 0);
      rig.tick(60);
      Rig.same("the other counts", rig.net.state(0, 6), 0);
      rig.net.power(0, true);
      rig.tick(60);
      Rig.same("it does not go on", rig.net.state(0, 6), 0);
      Rig.same("what was saved before", rig.net.entry(0, 0x6081, 0), 11);
    }
    rig.set(0, 0x1010, 1, SAVE, 4);
    rig.order(129, 0);
    Rig.same("order 129 cuts it, too", rig.net.state(0, 4), 0);
    rig.set(0, 0x1010, 1, SAVE, 4);
    rig.order(130, 0);
    Rig.isTrue("order 130 does not", rig.net.state(0, 4) > 0);
    rig.tick(40);
    Rig.same("it is done", rig.net.state(0, 6), 1);
  }

  private static void entriesAreTaken() {
    Rig rig = Rig.withDrives(1);
    long[][] all = {{0x1005, 0, 0x40000085L, 4}, {0x1006, 0, 77, 4}, {0x1015, 0, 3, 2}, {0x1016, 1, 0x10005, 4},
      {0x1016, 2, 0x20006, 4}, {0x1017, 0, 300, 2}, {0x1029, 1, 2, 1}, {0x1402, 1, 0x80000444L, 4}, {0x1403, 2, 9, 1},
      {0x1401, 5, 10, 2}, {0x1603, 1, 0x60810020L, 4}, {0x1603, 2, 0x00050008L, 4}, {0x1603, 0, 2, 1},
      {0x1803, 1, 0x485, 4}, {0x1802, 2, 254, 1}, {0x1801, 3, 8, 2}, {0x1800, 5, 6, 2}, {0x1A02, 2, 0x60FD0020L, 4},
      {0x2012, 0, 55, 1}, {0x605A, 0, 5, 2}, {0x605B, 0, 1, 2}, {0x605C, 0, 0, 2}, {0x605D, 0, 2, 2}, {0x605E, 0, 1, 2},
      {0x6060, 0, -1, 1}, {0x6065, 0, 5, 4}, {0x6066, 0, 6, 2}, {0x6067, 0, 7, 4}, {0x6068, 0, 8, 2},
      {0x607C, 0, -9, 4}, {0x607D, 1, -10, 4}, {0x607D, 2, 11, 4}, {0x607F, 0, 12, 4}, {0x6081, 0, 13, 4},
      {0x6083, 0, 14, 4}, {0x6084, 0, 15, 4}, {0x6085, 0, 16, 4}, {0x6098, 0, 18, 1}, {0x6099, 1, 19, 4},
      {0x6099, 2, 20, 4}, {0x609A, 0, 21, 4}, {0x60B8, 0, 0x31, 2}};
    for (long[] e : all) {
      rig.set(0, (int) e[0], (int) e[1], e[2], (int) e[3]);
    }
    rig.set(0, 0x607A, 0, 99, 4);
    rig.set(0, 0x60FF, 0, 98, 4);
    rig.set(0, 0x60FE, 1, 97, 4);
    save(rig);
    reboot(rig);
    for (long[] e : all) {
      Rig.same("entry " + Long.toHexString(e[0]), rig.net.entry(0, (int) e[0], (int) e[1]), e[2]);
    }
    Rig.same("0x607A is not kept", rig.net.entry(0, 0x607A, 0), 0);
    Rig.same("nor 0x60FF", rig.net.entry(0, 0x60FF, 0), 0);
    Rig.same("nor 0x60FE", rig.net.entry(0, 0x60FE, 1), 0);
    Rig.same("other drives have their own", rig.net.state(1, 6), -1);
  }

  private static void entriesThatCannotBe() {
    Rig rig = Rig.withDrives(1);
    save(rig);
    int[] good = image(rig, 0);
    // index, which of its entries, sub, the number there, its bytes, what it is then.
    long[][] all = {{0x1005, 0, 0, 0, 4, 128}, {0x1005, 0, 0, 0x80000081L, 4, 128}, {0x1005, 0, 0, 0x40000081L, 4, 0x40000081L},
      {0x1006, 0, 0, 100001, 4, 0}, {0x1029, 0, 1, 3, 1, 0}, {0x1016, 1, 2, 8388608, 4, 0},
      {0x1400, 0, 1, 0x40000201L, 4, 0x201}, {0x1400, 0, 1, 0x333, 4, 0x333}, {0x1401, 0, 1, 0x80000000L, 4, 0x80000301L},
      {0x1801, 1, 2, 241, 1, 255}, {0x1801, 1, 2, 240, 1, 240}, {0x1600, 0, 0, 5, 1, 1}, {0x1A01, 2, 2, 0x60400010L, 4, 0},
      {0x1601, 2, 2, 0x60400010L, 4, 0x60400010L}, {0x2012, 0, 0, 0, 1, 1}, {0x605A, 0, 0, 3, 2, 2}, {0x6060, 0, 0, 255, 1, -1},
      {0x6060, 0, 0, 254, 1, 1}, {0x607D, 0, 1, 0xC4653600L, 4, -1000000000}, {0x607D, 0, 1, 0xC46535FFL, 4, -1000000000},
      {0x607D, 1, 2, 0xFFFFFFFFL, 4, -1}, {0x607F, 0, 0, 0, 4, 100000}, {0x6081, 0, 0, 2000001, 4, 1000}};
    for (long[] e : all) {
      int[] image = java.util.Arrays.copyOf(good, EMPTY);
      int at = at((int) e[0], (int) e[1]);
      for (int i = 0; i < e[4]; i++) {
        image[at + i] = (int) (e[3] >>> 8 * i) & 255;
      }
      writeImage(rig, 0, image);
      Rig.same("it counts", rig.net.state(0, 6), 0);
      reboot(rig);
      Rig.same("entry " + Long.toHexString(e[0]) + " of " + e[3], rig.net.entry(0, (int) e[0], (int) e[2]), e[5]);
    }
  }

  private static void mapsThatCannotBe() {
    Rig rig = Rig.withDrives(1);
    save(rig);
    int[] good = image(rig, 0);
    // Sub 0 of 2, but sub 2 is 0.
    int[] image = java.util.Arrays.copyOf(good, EMPTY);
    image[at(0x1600, 0)] = 2;
    set(image, at(0x1600, 1), 0x60810020L);
    writeImage(rig, 0, image);
    reboot(rig);
    Rig.same("its default in sub 0", rig.net.entry(0, 0x1600, 0), 1);
    Rig.same("and in sub 1", rig.net.entry(0, 0x1600, 1), 0x60400010L);
    // 96 bits.
    image = java.util.Arrays.copyOf(good, EMPTY);
    image[at(0x1A01, 0)] = 3;
    set(image, at(0x1A01, 1), 0x60640020L);
    set(image, at(0x1A01, 2), 0x60620020L);
    set(image, at(0x1A01, 3), 0x60FD0020L);
    set(image, at(0x1A01, 4), 0x60410010L);
    writeImage(rig, 0, image);
    reboot(rig);
    for (int sub = 0; sub < 5; sub++) {
      Rig.same("too many bits: its defaults", rig.net.entry(0, 0x1A01, sub), 0);
    }
    image[at(0x1A01, 0)] = 2;
    writeImage(rig, 0, image);
    reboot(rig);
    Rig.same("64 bits are fine", rig.net.entry(0, 0x1A01, 0), 2);
    Rig.same("what is behind stays", rig.net.entry(0, 0x1A01, 4), 0x60410010L);
    // A sub that can't be keeps its default, which is 0.
    set(image, at(0x1A01, 2), 0x60400010L);
    writeImage(rig, 0, image);
    reboot(rig);
    Rig.same("no such map", rig.net.entry(0, 0x1A01, 0), 0);
    Rig.same("nor sub 1", rig.net.entry(0, 0x1A01, 1), 0);
  }

  private static void set(int[] image, int at, long v) {
    for (int i = 0; i < 4; i++) {
      image[at + i] = (int) (v >>> 8 * i) & 255;
    }
  }

  private static void defaultsAreWanted() {
    Rig rig = Rig.withDrives(1);
    rig.set(0, 0x6081, 0, 22, 4);
    save(rig);
    rig.set(0, 0x1011, 1, LOAD, 4);
    Rig.same("the entries stay", rig.net.entry(0, 0x6081, 0), 22);
    rig.net.power(0, false);
    Rig.same("wanted without power", rig.net.state(0, 5), 1);
    rig.net.power(0, true);
    Rig.same("the banks are left out", rig.net.entry(0, 0x6081, 0), 1000);
    Rig.same("wanted no more", rig.net.state(0, 5), 0);
    Rig.same("the bank counts still", rig.net.state(0, 6), 0);
    reboot(rig);
    Rig.same("and is taken the next time", rig.net.entry(0, 0x6081, 0), 22);
    rig.set(0, 0x1011, 1, LOAD, 4);
    rig.order(129, 0);
    Rig.same("by order 129, too", rig.net.entry(0, 0x6081, 0), 1000);
  }

  private static void defaultsAndSaves() {
    Rig rig = Rig.withDrives(1);
    rig.set(0, 0x1011, 1, LOAD, 4);
    rig.set(0, 0x1010, 1, SAVE, 4);
    rig.tick(10);
    Rig.same("wanted while it saves", rig.net.state(0, 5), 1);
    rig.tick(40);
    Rig.same("wanted no more when it is done", rig.net.state(0, 5), 0);
    rig.set(0, 0x1010, 1, SAVE, 4);
    rig.set(0, 0x1011, 1, LOAD, 4);
    rig.tick(45);
    Rig.same("the word came behind it", rig.net.state(0, 5), 1);
    rig.set(0, 0x1011, 1, LOAD, 4);
    rig.set(0, 0x1010, 1, SAVE, 4);
    rig.set(0, 0x1011, 1, LOAD, 4);
    rig.tick(45);
    Rig.same("the latest word counts", rig.net.state(0, 5), 1);
    save(rig);
    Rig.same("then not", rig.net.state(0, 5), 0);
    rig.set(0, 0x1011, 1, LOAD, 4);
    rig.set(0, 0x1010, 1, SAVE, 4);
    rig.net.power(0, false);
    Rig.same("a save that is cut is not done", rig.net.state(0, 5), 1);
  }

  private static void order130AndBanks() {
    Rig rig = Rig.withDrives(1);
    rig.set(0, 0x1006, 0, 66, 4);
    rig.set(0, 0x6081, 0, 67, 4);
    save(rig);
    rig.set(0, 0x1006, 0, 68, 4);
    rig.set(0, 0x6081, 0, 69, 4);
    rig.set(0, 0x1011, 1, LOAD, 4);
    rig.order(130, 0);
    Rig.same("below 0x2000 as kept", rig.net.entry(0, 0x1006, 0), 66);
    Rig.same("from 0x2000 on as it was", rig.net.entry(0, 0x6081, 0), 69);
    Rig.same("wanted still", rig.net.state(0, 5), 1);
  }

  private static void theNumberGoesRound() {
    Rig rig = Rig.withDrives(1);
    save(rig);
    int[] image = image(rig, 0);
    for (int i = 2; i < 6; i++) {
      image[i] = 255;
    }
    writeImage(rig, 0, image);
    save(rig);
    Rig.same("into bank 1", rig.net.bank(0, 1, 0), 0xA5);
    for (int i = 2; i < 6; i++) {
      Rig.same("the number is 0", rig.net.bank(0, 1, i), 0);
    }
    Rig.same("so bank 0 counts still", rig.net.state(0, 6), 0);
  }

  private static void wrongNumbers() {
    ServoNet net = new ServoNet(1);
    int[][] wrong = {{4, 0, 0}, {-1, 0, 0}, {0, 2, 0}, {0, -1, 0}, {0, 0, 1024}, {0, 1, -1}};
    for (int[] w : wrong) {
      Rig.noIndex("bank", () -> net.bank(w[0], w[1], w[2]));
      Rig.noIndex("scratch", () -> net.scratch(w[0], w[1], w[2], 256));
    }
    Rig.noArgument("256", () -> net.scratch(3, 1, 1023, 256));
    Rig.noArgument("-1", () -> net.scratch(3, 1, 1023, -1));
    Rig.same("it stays", net.bank(3, 1, 1023), 255);
    Rig.same("what it was", net.scratch(3, 1, 1023, 0), 255);
    Rig.same("what it is", net.bank(3, 1, 1023), 0);
  }

  private static void rightSumsOfNoImages() {
    Rig rig = Rig.withDrives(1);
    save(rig);
    int[] good = image(rig, 0);
    for (int at = 0; at < 2; at++) {
      int[] image = java.util.Arrays.copyOf(good, EMPTY);
      image[at] ^= 1;
      writeImage(rig, 0, image);
      Rig.same("another byte " + at + " with a right sum", rig.net.state(0, 6), -1);
    }
    writeImage(rig, 0, java.util.Arrays.copyOf(good, EMPTY));
    Rig.same("as it was", rig.net.state(0, 6), 0);
    int[] lengths = {0, 1, 10, 1025, 40000, 65535};
    for (int length : lengths) {
      rig.net.scratch(0, 0, 6, length & 255);
      rig.net.scratch(0, 0, 7, length >>> 8);
      Rig.same("a length of " + length, rig.net.state(0, 6), -1);
    }
  }

  private static void rowsAndOrder130() {
    Rig rig = Rig.withDrives(1);
    rig.set(0, 0x2000, 0, 0x4241, 2);
    save(rig);
    rig.set(0, 0x2000, 0, 0x43, 1);
    rig.net.clear();
    for (int i = 0; i < 12; i++) {
      rig.net.put(i);
    }
    rig.net.job(0, 0x2011, 0, false, false);
    rig.tick(20);
    Rig.same("one step", rig.net.entry(0, 0x2011, 0), 12);
    rig.order(130, 0);
    Rig.same("the text stays", rig.net.entry(0, 0x2000, 0), 1);
    Rig.same("the program, too", rig.net.entry(0, 0x2011, 0), 12);
    rig.order(129, 0);
    Rig.same("the text as kept", rig.net.entry(0, 0x2000, 0), 2);
    Rig.same("the program as kept", rig.net.entry(0, 0x2011, 0), 0);
    rig.net.scratch(0, 0, 0, 0);
    rig.net.job(0, 0x2011, 0, false, false);
    rig.tick(20);
    rig.order(129, 0);
    Rig.same("the text's default", rig.net.entry(0, 0x2000, 0), 0);
    Rig.same("the program's default", rig.net.entry(0, 0x2011, 0), 0);
  }
}
