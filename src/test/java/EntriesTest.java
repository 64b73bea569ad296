/** The entries: promises 8 and 9, section 6 of the terms, and the codes of reading and writing. */
public final class EntriesTest {
  private static final long BIG = 1000000000L;

  // index, sub, type, what can be done, default, then [least, greatest] or {what may be}.
  private static final String[] TABLE = {
    "1000 0 U32 r 131474", "1001 0 U8 ro 0",
    "1003 0 U8 rw 0 [0 0]", "1003 1 U32 r 0", "1003 2 U32 r 0", "1003 3 U32 r 0", "1003 4 U32 r 0",
    "1003 5 U32 r 0", "1003 6 U32 r 0", "1003 7 U32 r 0", "1003 8 U32 r 0",
    "1005 0 U32 rws 128 sync", "1006 0 U32 rws 0 [0 100000]", "1010 0 U8 r 1", "1010 1 U32 rw 1 word",
    "1011 0 U8 r 1", "1011 1 U32 rw 1 word", "1014 0 U32 r A128", "1015 0 U16 rws 0",
    "1016 0 U8 r 2", "1016 1 U32 rws 0 [0 8388607]", "1016 2 U32 rws 0 [0 8388607]", "1017 0 U16 rws 0",
    "1018 0 U8 r 4", "1018 1 U32 r 1514", "1018 2 U32 r 402", "1018 3 U32 r 1", "1018 4 U32 r A999",
    "1029 0 U8 r 1", "1029 1 U8 rws 0 [0 2]", "1200 0 U8 r 2", "1200 1 U32 r A1536", "1200 2 U32 r A1408",
    "1400 0 U8 r 5", "1400 1 U32 rws A512 id", "1400 2 U8 rws 255 kind", "1400 5 U16 rws 0",
    "1401 0 U8 r 5", "1401 1 U32 rws A2147484416 id", "1401 2 U8 rws 255 kind", "1401 5 U16 rws 0",
    "1402 0 U8 r 5", "1402 1 U32 rws A2147484672 id", "1402 2 U8 rws 255 kind", "1402 5 U16 rws 0",
    "1403 0 U8 r 5", "1403 1 U32 rws A2147484928 id", "1403 2 U8 rws 255 kind", "1403 5 U16 rws 0",
    "1600 0 U8 rws 1 map", "1600 1 U32 rws 1614807056 map", "1600 2 U32 rws 0 map", "1600 3 U32 rws 0 map",
    "1600 4 U32 rws 0 map", "1601 0 U8 rws 0 map", "1602 0 U8 rws 0 map", "1603 0 U8 rws 0 map",
    "1603 4 U32 rws 0 map",
    "1800 0 U8 r 5", "1800 1 U32 rws A384 id", "1800 2 U8 rws 255 kind", "1800 3 U16 rws 0", "1800 5 U16 rws 0",
    "1801 0 U8 r 5", "1801 1 U32 rws A2147484288 id", "1801 2 U8 rws 255 kind", "1801 3 U16 rws 0",
    "1801 5 U16 rws 0", "1802 1 U32 rws A2147484544 id", "1803 0 U8 r 5", "1803 1 U32 rws A2147484800 id",
    "1803 2 U8 rws 255 kind", "1803 3 U16 rws 0", "1803 5 U16 rws 0",
    "1A00 0 U8 rws 1 map", "1A00 1 U32 rws 1614872592 map", "1A00 2 U32 rws 0 map", "1A01 0 U8 rws 0 map",
    "1A03 4 U32 rws 0 map",
    "2012 0 U8 rws 1 [1 100]", "603F 0 U16 ro 0", "6040 0 U16 rwi 0", "6041 0 U16 ro 64",
    "605A 0 I16 rws 2 {0 1 2 5 6}", "605B 0 I16 rws 0 {0 1}", "605C 0 I16 rws 1 {0 1}", "605D 0 I16 rws 1 {1 2}",
    "605E 0 I16 rws 2 {0 1 2}", "6060 0 I8 rwsi 1 {-1 0 1 3 6 8}", "6061 0 I8 ro 1", "6062 0 I32 ro 0",
    "6064 0 I32 ro 0", "6065 0 U32 rws 2000 [0 1000000]", "6066 0 U16 rws 10", "6067 0 U32 rws 10 [0 1000000]",
    "6068 0 U16 rws 5", "606B 0 I32 ro 0", "606C 0 I32 ro 0", "607A 0 I32 rwi 0 [-1000000000 1000000000]",
    "607C 0 I32 rwsx 0 [-1000000000 1000000000]", "607D 0 U8 r 2",
    "607D 1 I32 rwsx -1000000000 [-1000000000 1000000000]", "607D 2 I32 rwsx 1000000000 [-1000000000 1000000000]",
    "607F 0 U32 rwsx 100000 [1 2000000]", "6081 0 U32 rwsi 1000 [1 2000000]", "6083 0 U32 rwsi 10000 [1 100000000]",
    "6084 0 U32 rwsi 10000 [1 100000000]", "6085 0 U32 rws 50000 [1 100000000]", "6098 0 I8 rws 35 {0 17 18 35}",
    "6099 0 U8 r 2", "6099 1 U32 rws 1000 [1 2000000]", "6099 2 U32 rws 100 [1 2000000]",
    "609A 0 U32 rws 10000 [1 100000000]", "60B8 0 U16 rwsi 0", "60B9 0 U16 ro 0", "60BA 0 I32 ro 0",
    "60BB 0 I32 ro 0", "60FD 0 U32 ro 0", "60FE 0 U8 r 1", "60FE 1 U32 rwi 0",
    "60FF 0 I32 rwi 0 [-2000000 2000000]", "6502 0 U32 r 165",
  };

  public static void main(String[] args) {
    for (String line : TABLE) {
      oneEntry(new Fields(line));
    }
    whatThereIsNot();
    textsAndRows();
    notInState4();
    syncIds();
    dataIds();
    kinds();
    maps();
    mappable();
    inTheOrderOfCodes();
    octets();
    Rig.end();
  }

  private static final class Fields {
    final int index;
    final int sub;
    final String type;
    final int bytes;
    final String can;
    final String first;
    final String rest;

    Fields(String line) {
      String[] part = line.split(" ", 6);
      index = Integer.parseInt(part[0], 16);
      sub = Integer.parseInt(part[1]);
      type = part[2];
      bytes = Integer.parseInt(type.substring(1)) / 8;
      can = part[3];
      first = part[4];
      rest = part.length > 5 ? part[5] : "";
    }

    long firstOf(int drive) {
      return first.startsWith("A") ? Long.parseLong(first.substring(1)) + drive + 1 : Long.parseLong(first);
    }

    long[] numbers() {
      String[] part = rest.substring(1, rest.length() - 1).split(" ");
      long[] numbers = new long[part.length];
      for (int i = 0; i < part.length; i++) {
        numbers[i] = Long.parseLong(part[i]);
      }
      return numbers;
    }

    long least() {
      return type.startsWith("U") ? 0 : -(1L << 8 * bytes - 1);
    }

    long greatest() {
      return (1L << 8 * bytes - (type.startsWith("U") ? 0 : 1)) - 1;
    }
  }

  private static void oneEntry(Fields f) {
    String name = Integer.toHexString(f.index) + " sub " + f.sub;
    Rig rig = Rig.withDrives(4);
    for (int k = 0; k < 4; k++) {
      Rig.same(name + " of drive " + k, rig.net.entry(k, f.index, f.sub), f.firstOf(k));
    }
    long bits = f.firstOf(2) & (f.bytes == 4 ? 0xFFFFFFFFL : (1L << 8 * f.bytes) - 1);
    rig.asks("reading " + name, 2, Rig.request(0x40, f.index, f.sub, 0),
        Rig.request(0x43 + 4 * (4 - f.bytes), f.index, f.sub, bits));
    if (!f.can.contains("w")) {
      Rig.same("writing " + name, rig.write(2, f.index, f.sub, f.firstOf(2), f.bytes), 0x06010002);
      return;
    }
    wrongLengths(rig, f, name);
    if (f.rest.isEmpty()) {
      takes(rig, f, name, f.least());
      takes(rig, f, name, f.greatest());
    } else if (f.rest.startsWith("[")) {
      bounds(rig, f, name);
    } else if (f.rest.startsWith("{")) {
      choices(rig, f, name);
    } else if (f.rest.equals("word")) {
      Rig.same(name + " with another number", rig.write(2, f.index, f.sub, 1, 4), 0x08000020);
      Rig.same(name + " stays", rig.net.entry(2, f.index, f.sub), 1);
    }
  }

  private static void wrongLengths(Rig rig, Fields f, String name) {
    long value = f.firstOf(2);
    if (f.bytes < 4) {
      Rig.same(name + " with more bytes", rig.write(2, f.index, f.sub, value, f.bytes + 1), 0x06070012);
    }
    if (f.bytes > 1) {
      Rig.same(name + " with fewer bytes", rig.write(2, f.index, f.sub, value, f.bytes - 1), 0x06070013);
    }
  }

  private static void takes(Rig rig, Fields f, String name, long value) {
    Rig.same(name + " becomes " + value, rig.write(2, f.index, f.sub, value, f.bytes), 0);
    Rig.same(name + " is " + value, rig.net.entry(2, f.index, f.sub), value);
  }

  private static void refuses(Rig rig, Fields f, String name, long value, int code) {
    long before = rig.net.entry(2, f.index, f.sub);
    Rig.same(name + " refuses " + value, rig.write(2, f.index, f.sub, value, f.bytes), code);
    Rig.same(name + " stays", rig.net.entry(2, f.index, f.sub), before);
  }

  private static void bounds(Rig rig, Fields f, String name) {
    long[] bounds = f.numbers();
    takes(rig, f, name, bounds[0]);
    takes(rig, f, name, bounds[1]);
    if (bounds[0] > f.least()) {
      refuses(rig, f, name, bounds[0] - 1, 0x06090032);
      refuses(rig, f, name, f.least(), 0x06090032);
    }
    refuses(rig, f, name, bounds[1] + 1, 0x06090031);
    refuses(rig, f, name, f.greatest(), 0x06090031);
  }

  private static void choices(Rig rig, Fields f, String name) {
    for (long v = -40; v <= 40; v++) {
      boolean may = false;
      for (long choice : f.numbers()) {
        may |= choice == v;
      }
      if (may) {
        takes(rig, f, name, v);
      } else if (v % 7 == 0 || v >= -3 && v < 10) {
        refuses(rig, f, name, v, 0x06090030);
      }
    }
  }

  private static void whatThereIsNot() {
    Rig rig = Rig.withDrives(2);
    ServoNet net = rig.net;
    int[] none = {0, 0xFFF, 0x1002, 0x1004, 0x1404, 0x1604, 0x1804, 0x1A04, 0x2001, 0x603E, 0x6063, 0x6503, 0xFFFF};
    for (int index : none) {
      Rig.same("reading no index", rig.ask(1, Rig.request(0x40, index, 0, 0)), Rig.aborted(index, 0, 0x06020000));
      Rig.same("writing no index", rig.write(1, index, 0, 0, 1), 0x06020000);
      Rig.noArgument("entry of no index", () -> net.entry(1, index, 0));
    }
    int[][] subs = {{0x1000, 1}, {0x1003, 9}, {0x1400, 3}, {0x1400, 4}, {0x1800, 4}, {0x1800, 6}, {0x1600, 5},
      {0x6040, 1}, {0x607D, 3}, {0x2000, 255}};
    for (int[] s : subs) {
      Rig.same("reading no sub", rig.ask(1, Rig.request(0x40, s[0], s[1], 0)), Rig.aborted(s[0], s[1], 0x06090011));
      Rig.same("writing no sub", rig.write(1, s[0], s[1], 0, 1), 0x06090011);
      Rig.noArgument("entry of no sub", () -> net.entry(1, s[0], s[1]));
      Rig.noArgument("octet of no sub", () -> net.octet(1, s[0], s[1], 0));
    }
    Rig.noArgument("index -1", () -> net.entry(0, -1, 0));
    Rig.noArgument("index 65536 + 0x1000", () -> net.entry(0, 65536 + 0x1000, 0));
    Rig.noArgument("sub 256", () -> net.entry(0, 0x1000, 256));
    Rig.noArgument("sub -1", () -> net.entry(0, 0x1018, -1));
    Rig.noArgument("sub -252", () -> net.entry(0, 0x1018, -252));
    Rig.noIndex("drive 4", () -> net.entry(4, -1, 0));
    Rig.noIndex("drive -1", () -> net.octet(-1, 0x1000, 0, 0));
    Rig.noArgument("no entry, no power", () -> net.entry(3, 0x1002, 0));
    Rig.notNow("entry without power", () -> net.entry(3, 0x1000, 0));
    Rig.notNow("octet without power", () -> net.octet(2, 0x1000, 0, 0));
  }

  private static void textsAndRows() {
    Rig rig = Rig.withDrives(1);
    ServoNet net = rig.net;
    Rig.same("0x1008", net.entry(0, 0x1008, 0), 10);
    String name = "servo axis";
    for (int i = 0; i < 10; i++) {
      Rig.same("a letter", net.octet(0, 0x1008, 0, i), name.charAt(i));
    }
    Rig.same("behind it", net.octet(0, 0x1008, 0, 10), -1);
    Rig.same("before it", net.octet(0, 0x1008, 0, -1), -1);
    Rig.same("0x1008 can't be written", rig.write(0, 0x1008, 0, 65, 1), 0x06010002);
    Rig.same("the trace can't be written", rig.write(0, 0x2010, 0, 65, 4), 0x06010002);
    Rig.same("0x2000 is empty", net.entry(0, 0x2000, 0), 0);
    Rig.same("0x2000 in one piece", rig.write(0, 0x2000, 0, 0x434241, 3), 0);
    Rig.same("0x2000 has three bytes", net.entry(0, 0x2000, 0), 3);
    Rig.same("the third one", net.octet(0, 0x2000, 0, 2), 0x43);
    Rig.same("behind them", net.octet(0, 0x2000, 0, 3), -1);
    rig.asks("a text of three bytes is read in one piece", 0, Rig.request(0x40, 0x2000, 0, 0),
        Rig.request(0x47, 0x2000, 0, 0x434241));
    rig.asks("without a number of bytes: 4", 0, Rig.request(0x22, 0x2000, 0, 0x44434241), Rig.request(0x60, 0x2000, 0, 0));
    Rig.same("0x2000 has four bytes", net.entry(0, 0x2000, 0), 4);
    Rig.same("a program of 4 bytes", rig.write(0, 0x2011, 0, 1, 4), 0x06090030);
    rig.asks("likewise without a number", 0, Rig.request(0x22, 0x2011, 0, 0), Rig.aborted(0x2011, 0, 0x06090030));
    Rig.same("the program is empty", net.entry(0, 0x2011, 0), 0);
    rig.asks("a number without a number of bytes has its own", 0, Rig.request(0x22, 0x6040, 0, 0x12345678),
        Rig.request(0x60, 0x6040, 0, 0));
    Rig.same("two of them", net.entry(0, 0x6040, 0), 0x5678);
  }

  /** x: not in power state 4, behind the lengths and before the values. */
  private static void notInState4() {
    Rig rig = Rig.withDrives(1);
    rig.enable(0);
    Rig.same("0x607C", rig.write(0, 0x607C, 0, 5, 4), 0x08000022);
    Rig.same("0x607C too short", rig.write(0, 0x607C, 0, 5, 2), 0x06070013);
    Rig.same("0x607C below", rig.write(0, 0x607C, 0, -2 * BIG, 4), 0x08000022);
    Rig.same("0x607D sub 1", rig.write(0, 0x607D, 1, 5, 4), 0x08000022);
    Rig.same("0x607D sub 2", rig.write(0, 0x607D, 2, 5, 4), 0x08000022);
    Rig.same("0x607F", rig.write(0, 0x607F, 0, 5, 4), 0x08000022);
    Rig.same("0x2011", rig.write(0, 0x2011, 0, 5, 4), 0x08000022);
    Rig.same("0x6081 can be", rig.write(0, 0x6081, 0, 5, 4), 0);
    Rig.same("0x2000 can be", rig.write(0, 0x2000, 0, 5, 4), 0);
    rig.control(0, 0);
    Rig.same("0x607C in state 1", rig.write(0, 0x607C, 0, 5, 4), 0);
  }

  private static void syncIds() {
    Rig rig = Rig.withDrives(1);
    Rig.same("ID 0", rig.write(0, 0x1005, 0, 0, 4), 0x06090030);
    Rig.same("ID 0 of a producer", rig.write(0, 0x1005, 0, 0x40000000L, 4), 0x06090030);
    Rig.same("bit 11", rig.write(0, 0x1005, 0, 0x880, 4), 0x06090030);
    Rig.same("bit 31", rig.write(0, 0x1005, 0, 0x80000080L, 4), 0x06090030);
    Rig.same("bit 29", rig.write(0, 0x1005, 0, 0x20000080L, 4), 0x06090030);
    Rig.same("another ID", rig.write(0, 0x1005, 0, 0x7FF, 4), 0);
    Rig.same("a producer with another ID", rig.write(0, 0x1005, 0, 0x40000081L, 4), 0);
    Rig.same("the ID of a producer", rig.write(0, 0x1005, 0, 0x40000082L, 4), 0x06090030);
    Rig.same("the same one", rig.write(0, 0x1005, 0, 0x40000081L, 4), 0);
    Rig.same("one that is none", rig.write(0, 0x1005, 0, 0x82, 4), 0);
    Rig.same("it is", rig.net.entry(0, 0x1005, 0), 0x82);
  }

  private static void dataIds() {
    for (int index : new int[] {0x1401, 0x1803}) {
      Rig rig = Rig.withDrives(1);
      Rig.same("ID 0", rig.write(0, index, 1, 0x80000000L, 4), 0x06090030);
      Rig.same("bit 30", rig.write(0, index, 1, 0xC0000181L, 4), 0x06090030);
      Rig.same("bit 11", rig.write(0, index, 1, 0x80000981L, 4), 0x06090030);
      Rig.same("another ID while OFF", rig.write(0, index, 1, 0x80000222L, 4), 0);
      Rig.same("not OFF with another ID", rig.write(0, index, 1, 0x223, 4), 0);
      Rig.same("another ID while not OFF", rig.write(0, index, 1, 0x224, 4), 0x06090030);
      Rig.same("the same one", rig.write(0, index, 1, 0x223, 4), 0);
      Rig.same("OFF with another ID", rig.write(0, index, 1, 0x80000225L, 4), 0);
      Rig.same("it is", rig.net.entry(0, index, 1), 0x80000225L);
    }
  }

  private static void kinds() {
    Rig rig = Rig.withDrives(1);
    for (int index : new int[] {0x1400, 0x1802}) {
      for (int kind : new int[] {0, 1, 240, 254, 255}) {
        Rig.same("KIND " + kind, rig.write(0, index, 2, kind, 1), 0);
      }
      for (int kind : new int[] {241, 248, 253}) {
        Rig.same("KIND " + kind, rig.write(0, index, 2, kind, 1), 0x06090030);
      }
    }
  }

  private static void maps() {
    Rig rig = Rig.withDrives(1);
    Rig.same("a map that is not OFF, sub 0", rig.write(0, 0x1A00, 0, 0, 1), 0x06010000);
    Rig.same("even a wrong one", rig.write(0, 0x1A00, 0, 9, 1), 0x06010000);
    Rig.same("of IN, too", rig.write(0, 0x1600, 0, 0, 1), 0x06010000);
    Rig.same("a map that is not OFF, sub 1", rig.write(0, 0x1600, 1, 0, 4), 0x06010000);
    rig.set(0, 0x1800, 1, 0x80000181L, 4);
    Rig.same("sub 1 while sub 0 is 1", rig.write(0, 0x1A00, 1, 0, 4), 0x06010000);
    rig.set(0, 0x1A00, 0, 0, 1);
    rig.set(0, 0x1A00, 1, 0x60640020L, 4);
    rig.set(0, 0x1A00, 2, 0x606C0020L, 4);
    rig.set(0, 0x1A00, 3, 0x60410010L, 4);
    Rig.same("sub 0 of 5", rig.write(0, 0x1A00, 0, 5, 1), 0x06090031);
    Rig.same("sub 4 is 0", rig.write(0, 0x1A00, 0, 4, 1), 0x06040041);
    Rig.same("80 bits", rig.write(0, 0x1A00, 0, 3, 1), 0x06040042);
    Rig.same("64 bits", rig.write(0, 0x1A00, 0, 2, 1), 0);
    Rig.same("sub 0 is 2", rig.net.entry(0, 0x1A00, 0), 2);
    Rig.same("subs only while sub 0 is 0", rig.write(0, 0x1A00, 3, 0, 4), 0x06010000);
    Rig.same("another number of them", rig.write(0, 0x1A00, 0, 1, 1), 0);
    rig.set(0, 0x1A00, 0, 0, 1);
    rig.set(0, 0x1A00, 2, 0, 4);
    Rig.same("a 0 between", rig.write(0, 0x1A00, 0, 3, 1), 0x06040041);
    Rig.same("a 0 and too many bits", rig.write(0, 0x1A00, 0, 4, 1), 0x06040041);
  }

  private static void mappable() {
    String in = "60400010 60600008 607A0020 60810020 60830020 60840020 60B80010 60FE0120 60FF0020 "
        + "00050008 00060010 00070020 00000000";
    String out = "10010008 603F0010 60410010 60610008 60620020 60640020 606B0020 606C0020 60B90010 60BA0020 "
        + "60BB0020 60FD0020 00000000";
    String neither = "60400008 60410020 60400110 60FE0020 607C0020 10000020 20000008 00050010 00060008 00080008 "
        + "60990120 FFFF0020 00000001 60FE0220";
    Rig rig = Rig.withDrives(1);
    for (String word : (in + " " + out + " " + neither).split(" ")) {
      long v = Long.parseLong(word, 16);
      Rig.same("IN " + word, rig.write(0, 0x1602, 2, v, 4), in.contains(word) ? 0 : 0x06040041);
      Rig.same("OUT " + word, rig.write(0, 0x1A01, 3, v, 4), out.contains(word) ? 0 : 0x06040041);
    }
  }

  private static void inTheOrderOfCodes() {
    Rig rig = Rig.withDrives(1);
    Rig.same("no sub before length", rig.write(0, 0x6040, 1, 0, 4), 0x06090011);
    Rig.same("can't be written before length", rig.write(0, 0x6041, 0, 0, 4), 0x06010002);
    Rig.same("length before the map's state", rig.write(0, 0x1600, 1, 0, 2), 0x06070013);
    Rig.same("0x1003 sub 0 of 1", rig.write(0, 0x1003, 0, 1, 1), 0x06090031);
  }

  private static void octets() {
    Rig rig = Rig.withDrives(1);
    ServoNet net = rig.net;
    rig.set(0, 0x607A, 0, -2, 4);
    int[] bytes = {254, 255, 255, 255};
    for (int i = 0; i < 4; i++) {
      Rig.same("a byte of -2", net.octet(0, 0x607A, 0, i), bytes[i]);
    }
    Rig.same("behind it", net.octet(0, 0x607A, 0, 4), -1);
    Rig.same("before it", net.octet(0, 0x607A, 0, -1), -1);
    Rig.same("far behind it", net.octet(0, 0x607A, 0, Integer.MAX_VALUE), -1);
    Rig.same("far before it", net.octet(0, 0x607A, 0, Integer.MIN_VALUE), -1);
    Rig.same("a byte of 0x1014", net.octet(0, 0x1014, 0, 0), 129);
    Rig.same("its last one", net.octet(0, 0x1014, 0, 3), 0);
    Rig.same("the second of a U8", net.octet(0, 0x1001, 0, 1), -1);
    net.hand(0, -1, true);
    Rig.same("0x6064 of -1", net.octet(0, 0x6064, 0, 3), 255);
    Rig.same("0x60FD of a shaft that is held", net.octet(0, 0x60FD, 0, 2), 1);
    Rig.same("the byte of the mode", net.octet(0, 0x6061, 0, 0), 1);
  }
}
