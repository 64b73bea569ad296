import java.util.Arrays;

/** Four servo drives and a master on one bus; shared/DOC.md says what each call does. */
public final class ServoNet {
  public static final int NONE = -1;

  private static final int DRIVES = 4;
  private static final int MASTER = 4;
  private static final int STATIONS = 5;
  private static final int OUT_ROOM = 24;
  private static final int IN_ROOM = 32;
  private static final int LOG_ROOM = 256;
  private static final int BUFFER_ROOM = 160;
  private static final int BANK_ROOM = 1024;
  private static final int SETTINGS_ROOM = 16;

  private static final long MILLION = 1000000L;
  private static final long U32_MASK = 0xFFFFFFFFL;

  // A frame's HEAD is its ID times 32, 16 if it is REMOTE, and its LENGTH: one number
  // for each frame keeps the rows small and lets the heads be compared as they win.
  private static final int REMOTE = 16;

  private static final int PRE = 127;
  private static final int OPERATIONAL = 5;
  private static final int STOPPED = 4;

  private static final int SWITCH_ON_DISABLED = 1;
  private static final int READY = 2;
  private static final int SWITCHED_ON = 3;
  private static final int ENABLED = 4;
  private static final int QUICK_STOP = 5;
  private static final int FAULT_REACTION = 6;
  private static final int FAULT = 7;

  private static final int LOST_FRAME = 0x8110;
  private static final int MISSED = 0x8130;
  private static final int WAS_BUS_OFF = 0x8140;
  private static final int TOO_FAR = 0x8611;
  private static final int AT_SWITCH = 0x8612;
  private static final int BAD_STEP = 0xFF01;

  private static final int BAD_TURN = 0x05030000;
  private static final int TIMED_OUT = 0x05040000;
  private static final int BAD_COMMAND = 0x05040001;
  private static final int BAD_BLOCK_SIZE = 0x05040002;
  private static final int BAD_PIECE = 0x05040003;
  private static final int BAD_SUM = 0x05040004;
  private static final int NO_ROOM = 0x05040005;
  private static final int NOT_AS_THINGS_ARE = 0x06010000;
  private static final int NOT_READ = 0x06010001;
  private static final int NOT_WRITTEN = 0x06010002;
  private static final int NO_INDEX = 0x06020000;
  private static final int NOT_MAPPED = 0x06040041;
  private static final int MAP_TOO_LONG = 0x06040042;
  private static final int TOO_MANY_BYTES = 0x06070012;
  private static final int TOO_FEW_BYTES = 0x06070013;
  private static final int NO_SUB = 0x06090011;
  private static final int NOT_ONE_OF = 0x06090030;
  private static final int ABOVE = 0x06090031;
  private static final int BELOW = 0x06090032;
  private static final int WRONG_WORD = 0x08000020;
  private static final int NOT_NOW = 0x08000022;

  private static final long SAVE_NUMBER = 0x65766173L;
  private static final long RESTORE_NUMBER = 0x64616F6CL;
  private static final long ID_BITS = 0x7FFL;
  private static final long PRODUCER = 0x40000000L;
  private static final int OFF = 0x80000000;
  private static final long OFF_BIT = 0x80000000L;

  // An entry's kind: its type in the lowest four bits, then what can be done with it, then
  // the form that its value must have.
  private static final int U8 = 0;
  private static final int U16 = 1;
  private static final int U32 = 2;
  private static final int I8 = 3;
  private static final int I16 = 4;
  private static final int I32 = 5;
  private static final int TEXT = 6;
  private static final int TRACE = 7;
  private static final int PROGRAM = 8;
  private static final int TYPE_BITS = 15;
  private static final int R = 0x10;
  private static final int W = 0x20;
  private static final int S = 0x40;
  private static final int X = 0x80;
  private static final int I = 0x100;
  private static final int O = 0x200;
  private static final int PLUS = 0x400;
  private static final int FORM_BITS = 0xF000;
  private static final int BOUNDED = 0x1000;
  private static final int LISTED = 0x2000;
  private static final int SYNC_FORM = 0x3000;
  private static final int ID_FORM = 0x4000;
  private static final int KIND_FORM = 0x5000;
  private static final int IN_FORM = 0x6000;
  private static final int OUT_FORM = 0x7000;

  private static final int[] WIDTHS = {1, 2, 4, 1, 2, 4};
  private static final int TEXT_ROOM = 24;
  private static final int TRACE_ROOM = 32;
  private static final int STEP_BYTES = 12;
  private static final int STEPS_ROOM = 12;
  private static final int PROGRAM_ROOM = 144;
  private static final int[] NAME = {115, 101, 114, 118, 111, 32, 97, 120, 105, 115};

  // The SLOTS of entries that the program itself uses: their rows of BOOK.
  private static final int ERROR_REGISTER = 1;
  private static final int HISTORY = 2;
  private static final int SYNC_ID = 11;
  private static final int SYNC_CYCLE = 12;
  private static final int DEVICE_NAME = 13;
  private static final int SAVE_WORD = 15;
  private static final int RESTORE_WORD = 17;
  private static final int EMERGENCY_REST = 19;
  private static final int AWAITED = 21;
  private static final int HEARTBEAT = 23;
  private static final int LOSS_ACTION = 30;
  private static final int IN = 34;
  private static final int IN_MAP = 50;
  private static final int OUT = 70;
  private static final int OUT_MAP = 90;
  private static final int NOTE = 110;
  private static final int TRACE_ROW = 111;
  private static final int STEPS = 112;
  private static final int TRACE_EVERY = 113;
  private static final int ERROR_CODE = 114;
  private static final int CONTROL = 115;
  private static final int STATUS = 116;
  private static final int QUICK_OPTION = 117;
  private static final int SHUT_OPTION = 118;
  private static final int DISABLE_OPTION = 119;
  private static final int HALT_OPTION = 120;
  private static final int FAULT_OPTION = 121;
  private static final int MODE_WANTED = 122;
  private static final int MODE = 123;
  private static final int DEMAND = 124;
  private static final int SHAFT = 125;
  private static final int FAR = 126;
  private static final int FAR_TICKS = 127;
  private static final int NEAR = 128;
  private static final int NEAR_TICKS = 129;
  private static final int DEMAND_SPEED = 130;
  private static final int SHAFT_SPEED = 131;
  private static final int TARGET = 132;
  private static final int HOME = 133;
  private static final int LEAST = 135;
  private static final int GREATEST = 136;
  private static final int TOP_SPEED = 137;
  private static final int SPEED = 138;
  private static final int SPEED_UP = 139;
  private static final int SPEED_DOWN = 140;
  private static final int QUICK_DOWN = 141;
  private static final int HOMING = 142;
  private static final int HOMING_FAST = 144;
  private static final int HOMING_SLOW = 145;
  private static final int HOMING_CHANGE = 146;
  private static final int PROBE = 147;
  private static final int PROBE_STATUS = 148;
  private static final int PROBE_UP = 149;
  private static final int PROBE_DOWN = 150;
  private static final int SWITCHES = 151;
  private static final int SPEED_WANTED = 154;
  private static final int SLOTS = 156;

  private static final int MAPS = 4;
  private static final int MAP_ROWS = 5;
  private static final int IN_ROWS = 4;
  private static final int OUT_ROWS = 5;
  private static final int INDEX_2000 = 0x200000;

  // Each entry: index times 256 and sub, kind, default (with PLUS the address is added),
  // least, greatest (both with BOUNDED alone). By index, then by sub.
  private static final int COLUMNS = 5;
  private static final int[] BOOK = {
    0x100000, U32 | R, 131474, 0, 0,
    0x100100, U8 | R | O, 0, 0, 0,
    0x100300, U8 | R | W | BOUNDED, 0, 0, 0,
    0x100301, U32 | R, 0, 0, 0,
    0x100302, U32 | R, 0, 0, 0,
    0x100303, U32 | R, 0, 0, 0,
    0x100304, U32 | R, 0, 0, 0,
    0x100305, U32 | R, 0, 0, 0,
    0x100306, U32 | R, 0, 0, 0,
    0x100307, U32 | R, 0, 0, 0,
    0x100308, U32 | R, 0, 0, 0,
    0x100500, U32 | R | W | S | SYNC_FORM, 128, 0, 0,
    0x100600, U32 | R | W | S | BOUNDED, 0, 0, 100000,
    0x100800, TEXT | R, 0, 0, 0,
    0x101000, U8 | R, 1, 0, 0,
    0x101001, U32 | R | W, 1, 0, 0,
    0x101100, U8 | R, 1, 0, 0,
    0x101101, U32 | R | W, 1, 0, 0,
    0x101400, U32 | R | PLUS, 128, 0, 0,
    0x101500, U16 | R | W | S, 0, 0, 0,
    0x101600, U8 | R, 2, 0, 0,
    0x101601, U32 | R | W | S | BOUNDED, 0, 0, 8388607,
    0x101602, U32 | R | W | S | BOUNDED, 0, 0, 8388607,
    0x101700, U16 | R | W | S, 0, 0, 0,
    0x101800, U8 | R, 4, 0, 0,
    0x101801, U32 | R, 1514, 0, 0,
    0x101802, U32 | R, 402, 0, 0,
    0x101803, U32 | R, 1, 0, 0,
    0x101804, U32 | R | PLUS, 999, 0, 0,
    0x102900, U8 | R, 1, 0, 0,
    0x102901, U8 | R | W | S | BOUNDED, 0, 0, 2,
    0x120000, U8 | R, 2, 0, 0,
    0x120001, U32 | R | PLUS, 0x600, 0, 0,
    0x120002, U32 | R | PLUS, 0x580, 0, 0,
    0x140000, U8 | R, 5, 0, 0,
    0x140001, U32 | R | W | S | PLUS | ID_FORM, 0x200, 0, 0,
    0x140002, U8 | R | W | S | KIND_FORM, 255, 0, 0,
    0x140005, U16 | R | W | S, 0, 0, 0,
    0x140100, U8 | R, 5, 0, 0,
    0x140101, U32 | R | W | S | PLUS | ID_FORM, OFF | 0x300, 0, 0,
    0x140102, U8 | R | W | S | KIND_FORM, 255, 0, 0,
    0x140105, U16 | R | W | S, 0, 0, 0,
    0x140200, U8 | R, 5, 0, 0,
    0x140201, U32 | R | W | S | PLUS | ID_FORM, OFF | 0x400, 0, 0,
    0x140202, U8 | R | W | S | KIND_FORM, 255, 0, 0,
    0x140205, U16 | R | W | S, 0, 0, 0,
    0x140300, U8 | R, 5, 0, 0,
    0x140301, U32 | R | W | S | PLUS | ID_FORM, OFF | 0x500, 0, 0,
    0x140302, U8 | R | W | S | KIND_FORM, 255, 0, 0,
    0x140305, U16 | R | W | S, 0, 0, 0,
    0x160000, U8 | R | W | S | BOUNDED, 1, 0, 4,
    0x160001, U32 | R | W | S | IN_FORM, 0x60400010, 0, 0,
    0x160002, U32 | R | W | S | IN_FORM, 0, 0, 0,
    0x160003, U32 | R | W | S | IN_FORM, 0, 0, 0,
    0x160004, U32 | R | W | S | IN_FORM, 0, 0, 0,
    0x160100, U8 | R | W | S | BOUNDED, 0, 0, 4,
    0x160101, U32 | R | W | S | IN_FORM, 0, 0, 0,
    0x160102, U32 | R | W | S | IN_FORM, 0, 0, 0,
    0x160103, U32 | R | W | S | IN_FORM, 0, 0, 0,
    0x160104, U32 | R | W | S | IN_FORM, 0, 0, 0,
    0x160200, U8 | R | W | S | BOUNDED, 0, 0, 4,
    0x160201, U32 | R | W | S | IN_FORM, 0, 0, 0,
    0x160202, U32 | R | W | S | IN_FORM, 0, 0, 0,
    0x160203, U32 | R | W | S | IN_FORM, 0, 0, 0,
    0x160204, U32 | R | W | S | IN_FORM, 0, 0, 0,
    0x160300, U8 | R | W | S | BOUNDED, 0, 0, 4,
    0x160301, U32 | R | W | S | IN_FORM, 0, 0, 0,
    0x160302, U32 | R | W | S | IN_FORM, 0, 0, 0,
    0x160303, U32 | R | W | S | IN_FORM, 0, 0, 0,
    0x160304, U32 | R | W | S | IN_FORM, 0, 0, 0,
    0x180000, U8 | R, 5, 0, 0,
    0x180001, U32 | R | W | S | PLUS | ID_FORM, 0x180, 0, 0,
    0x180002, U8 | R | W | S | KIND_FORM, 255, 0, 0,
    0x180003, U16 | R | W | S, 0, 0, 0,
    0x180005, U16 | R | W | S, 0, 0, 0,
    0x180100, U8 | R, 5, 0, 0,
    0x180101, U32 | R | W | S | PLUS | ID_FORM, OFF | 0x280, 0, 0,
    0x180102, U8 | R | W | S | KIND_FORM, 255, 0, 0,
    0x180103, U16 | R | W | S, 0, 0, 0,
    0x180105, U16 | R | W | S, 0, 0, 0,
    0x180200, U8 | R, 5, 0, 0,
    0x180201, U32 | R | W | S | PLUS | ID_FORM, OFF | 0x380, 0, 0,
    0x180202, U8 | R | W | S | KIND_FORM, 255, 0, 0,
    0x180203, U16 | R | W | S, 0, 0, 0,
    0x180205, U16 | R | W | S, 0, 0, 0,
    0x180300, U8 | R, 5, 0, 0,
    0x180301, U32 | R | W | S | PLUS | ID_FORM, OFF | 0x480, 0, 0,
    0x180302, U8 | R | W | S | KIND_FORM, 255, 0, 0,
    0x180303, U16 | R | W | S, 0, 0, 0,
    0x180305, U16 | R | W | S, 0, 0, 0,
    0x1A0000, U8 | R | W | S | BOUNDED, 1, 0, 4,
    0x1A0001, U32 | R | W | S | OUT_FORM, 0x60410010, 0, 0,
    0x1A0002, U32 | R | W | S | OUT_FORM, 0, 0, 0,
    0x1A0003, U32 | R | W | S | OUT_FORM, 0, 0, 0,
    0x1A0004, U32 | R | W | S | OUT_FORM, 0, 0, 0,
    0x1A0100, U8 | R | W | S | BOUNDED, 0, 0, 4,
    0x1A0101, U32 | R | W | S | OUT_FORM, 0, 0, 0,
    0x1A0102, U32 | R | W | S | OUT_FORM, 0, 0, 0,
    0x1A0103, U32 | R | W | S | OUT_FORM, 0, 0, 0,
    0x1A0104, U32 | R | W | S | OUT_FORM, 0, 0, 0,
    0x1A0200, U8 | R | W | S | BOUNDED, 0, 0, 4,
    0x1A0201, U32 | R | W | S | OUT_FORM, 0, 0, 0,
    0x1A0202, U32 | R | W | S | OUT_FORM, 0, 0, 0,
    0x1A0203, U32 | R | W | S | OUT_FORM, 0, 0, 0,
    0x1A0204, U32 | R | W | S | OUT_FORM, 0, 0, 0,
    0x1A0300, U8 | R | W | S | BOUNDED, 0, 0, 4,
    0x1A0301, U32 | R | W | S | OUT_FORM, 0, 0, 0,
    0x1A0302, U32 | R | W | S | OUT_FORM, 0, 0, 0,
    0x1A0303, U32 | R | W | S | OUT_FORM, 0, 0, 0,
    0x1A0304, U32 | R | W | S | OUT_FORM, 0, 0, 0,
    0x200000, TEXT | R | W | S, 0, 0, 0,
    0x201000, TRACE | R, 0, 0, 0,
    0x201100, PROGRAM | R | W | S | X, 0, 0, 0,
    0x201200, U8 | R | W | S | BOUNDED, 1, 1, 100,
    0x603F00, U16 | R | O, 0, 0, 0,
    0x604000, U16 | R | W | I, 0, 0, 0,
    0x604100, U16 | R | O, 0, 0, 0,
    0x605A00, I16 | R | W | S | LISTED, 2, 0, 0,
    0x605B00, I16 | R | W | S | LISTED, 0, 0, 0,
    0x605C00, I16 | R | W | S | LISTED, 1, 0, 0,
    0x605D00, I16 | R | W | S | LISTED, 1, 0, 0,
    0x605E00, I16 | R | W | S | LISTED, 2, 0, 0,
    0x606000, I8 | R | W | S | I | LISTED, 1, 0, 0,
    0x606100, I8 | R | O, 0, 0, 0,
    0x606200, I32 | R | O, 0, 0, 0,
    0x606400, I32 | R | O, 0, 0, 0,
    0x606500, U32 | R | W | S | BOUNDED, 2000, 0, 1000000,
    0x606600, U16 | R | W | S, 10, 0, 0,
    0x606700, U32 | R | W | S | BOUNDED, 10, 0, 1000000,
    0x606800, U16 | R | W | S, 5, 0, 0,
    0x606B00, I32 | R | O, 0, 0, 0,
    0x606C00, I32 | R | O, 0, 0, 0,
    0x607A00, I32 | R | W | I | BOUNDED, 0, -1000000000, 1000000000,
    0x607C00, I32 | R | W | S | X | BOUNDED, 0, -1000000000, 1000000000,
    0x607D00, U8 | R, 2, 0, 0,
    0x607D01, I32 | R | W | S | X | BOUNDED, -1000000000, -1000000000, 1000000000,
    0x607D02, I32 | R | W | S | X | BOUNDED, 1000000000, -1000000000, 1000000000,
    0x607F00, U32 | R | W | S | X | BOUNDED, 100000, 1, 2000000,
    0x608100, U32 | R | W | S | I | BOUNDED, 1000, 1, 2000000,
    0x608300, U32 | R | W | S | I | BOUNDED, 10000, 1, 100000000,
    0x608400, U32 | R | W | S | I | BOUNDED, 10000, 1, 100000000,
    0x608500, U32 | R | W | S | BOUNDED, 50000, 1, 100000000,
    0x609800, I8 | R | W | S | LISTED, 35, 0, 0,
    0x609900, U8 | R, 2, 0, 0,
    0x609901, U32 | R | W | S | BOUNDED, 1000, 1, 2000000,
    0x609902, U32 | R | W | S | BOUNDED, 100, 1, 2000000,
    0x609A00, U32 | R | W | S | BOUNDED, 10000, 1, 100000000,
    0x60B800, U16 | R | W | S | I, 0, 0, 0,
    0x60B900, U16 | R | O, 0, 0, 0,
    0x60BA00, I32 | R | O, 0, 0, 0,
    0x60BB00, I32 | R | O, 0, 0, 0,
    0x60FD00, U32 | R | O, 0, 0, 0,
    0x60FE00, U8 | R, 1, 0, 0,
    0x60FE01, U32 | R | W | I, 0, 0, 0,
    0x60FF00, I32 | R | W | I | BOUNDED, 0, -2000000, 2000000,
    0x650200, U32 | R, 165, 0, 0,
  };

  // What may be, of the entries that are LISTED: index times 256, a value.
  private static final int[] CHOICES = {
    0x605A00, 0, 0x605A00, 1, 0x605A00, 2, 0x605A00, 5, 0x605A00, 6,
    0x605B00, 0, 0x605B00, 1,
    0x605C00, 0, 0x605C00, 1,
    0x605D00, 1, 0x605D00, 2,
    0x605E00, 0, 0x605E00, 1, 0x605E00, 2,
    0x606000, -1, 0x606000, 0, 0x606000, 1, 0x606000, 3, 0x606000, 6, 0x606000, 8,
    0x609800, 0, 0x609800, 17, 0x609800, 18, 0x609800, 35,
  };

  // What begins anew: a bit each of Data.anew, which the one that goes on takes away when
  // it comes to it.
  private static final int ANEW_SYNC = 1;
  private static final int ANEW_HEARTBEAT = 2;
  private static final int ANEW_AWAITED = 4;
  private static final int ANEW_TRACE = 16;
  private static final int ANEW_IN = 0x100;
  private static final int ANEW_OUT = 0x1000;
  private static final int ANEW_DATA = 0xFF00;
  private static final int ANEW_BUS = ANEW_DATA | 15;

  private final Bus bus;
  private final Drive[] drives = new Drive[DRIVES];
  private final Job job;
  private final Plans plans;

  public ServoNet(int rate) {
    bus = new Bus(Math.max(1, Math.min(8, rate)));
    for (int k = 0; k < DRIVES; k++) {
      drives[k] = new Drive(bus, k);
    }
    job = new Job(bus);
    plans = new Plans(bus, job);
  }

  public int tick(int n) throws IllegalArgumentException {
    if (n < 0 || n > 200) {
      throw new IllegalArgumentException("ticks are 0 to 200");
    }
    for (int i = 0; i < n; i++) {
      bus.carry();
      for (int k = 0; k < DRIVES; k++) {
        if (bus.powered[k]) {
          drives[k].work();
        }
      }
      plans.work();
      endBusOff();
      bus.clock++;
    }
    return bus.clock;
  }

  private void endBusOff() {
    for (int s = 0; s < STATIONS; s++) {
      if (bus.comesBack(s) && s < DRIVES) {
        drives[s].alarms.raise(WAS_BUS_OFF);
      }
    }
  }

  public boolean power(int drive, boolean on) throws IndexOutOfBoundsException {
    checkDrive(drive);
    if (bus.powered[drive] == on) {
      return false;
    }
    bus.powered[drive] = on;
    if (on) {
      drives[drive].boot(true);
    } else {
      drives[drive].fade();
    }
    return true;
  }

  public int frame(int id, boolean remote, int length, long bytes) throws IllegalArgumentException {
    if (id < 0 || id > 2047 || length < 0 || length > 8) {
      throw new IllegalArgumentException("an ID is 0 to 2047, a length 0 to 8");
    }
    long sent = bytes;
    if (remote || length == 0) {
      sent = 0;
    } else if (length < 8) {
      sent = bytes & ((1L << 8 * length) - 1);
    }
    int head = headOf(id, length) + (remote ? REMOTE : 0);
    return bus.send(MASTER, head, sent) ? bus.outSize[MASTER] : NONE;
  }

  public int disturb(int station, int n) throws IndexOutOfBoundsException, IllegalArgumentException {
    checkStation(station);
    if (n < 0 || n > 1000) {
      throw new IllegalArgumentException("disturbances are 0 to 1000");
    }
    int left = bus.disturbances[station];
    bus.disturbances[station] = n;
    return left;
  }

  public int hand(int drive, int increments, boolean hold)
      throws IndexOutOfBoundsException, IllegalArgumentException {
    checkDrive(drive);
    if (increments < -1000000 || increments > 1000000) {
      throw new IllegalArgumentException("increments are -1000000 to 1000000");
    }
    return drives[drive].axis.push(increments, hold);
  }

  public int inputs(int drive, int bits) throws IndexOutOfBoundsException, IllegalArgumentException {
    checkDrive(drive);
    if (bits < 0 || bits > 65535) {
      throw new IllegalArgumentException("inputs are 0 to 65535");
    }
    int before = drives[drive].data.inputs;
    drives[drive].data.inputs = bits;
    return before;
  }

  public long entry(int drive, int index, int sub)
      throws IndexOutOfBoundsException, IllegalArgumentException, IllegalStateException {
    int slot = checkEntry(drive, index, sub);
    return isNumber(slot) ? drives[drive].access.number(slot) : drives[drive].data.rowSize(slot);
  }

  public int octet(int drive, int index, int sub, int i)
      throws IndexOutOfBoundsException, IllegalArgumentException, IllegalStateException {
    int slot = checkEntry(drive, index, sub);
    if (!isNumber(slot)) {
      return drives[drive].data.rowByte(slot, i);
    }
    if (i < 0 || i >= widthOf(slot)) {
      return NONE;
    }
    return byteOf(drives[drive].access.number(slot), i);
  }

  public int state(int drive, int what) throws IndexOutOfBoundsException {
    checkDrive(drive);
    checkWhat(what, 9);
    Drive d = drives[drive];
    boolean on = bus.powered[drive];
    switch (what) {
      case 0: return on ? 1 : 0;
      case 1: return on ? d.data.network : 0;
      case 2: return on ? d.data.power : 0;
      case 3: return on ? d.transfer.open : 0;
      case 4: return d.keeper.left();
      case 5: return d.data.wanted ? 1 : 0;
      case 6: return d.keeper.bankThatCounts();
      case 7: return on ? d.alarms.activeSize : 0;
      default: return on ? d.alarms.waitSize : 0;
    }
  }

  public int station(int station, int what) throws IndexOutOfBoundsException {
    checkStation(station);
    checkWhat(what, 5);
    switch (what) {
      case 0: return bus.busOff[station] ? 1 : 0;
      case 1: return bus.sendCounts[station];
      case 2: return bus.takeCounts[station];
      case 3: return bus.outSize[station];
      default: return bus.disturbances[station];
    }
  }

  public long place(int drive, int what) throws IndexOutOfBoundsException {
    checkDrive(drive);
    checkWhat(what, 4);
    Data data = drives[drive].data;
    boolean on = bus.powered[drive];
    switch (what) {
      case 0: return on ? data.demand : data.shaft;
      case 1: return on ? data.speed : 0;
      case 2: return data.shaft;
      default: return on ? data.moved : 0;
    }
  }

  public int bank(int drive, int bank, int i) throws IndexOutOfBoundsException {
    checkBank(drive, bank, i);
    return drives[drive].keeper.banks[bank][i];
  }

  public int scratch(int drive, int bank, int i, int v)
      throws IndexOutOfBoundsException, IllegalArgumentException {
    checkBank(drive, bank, i);
    checkByte(v);
    int[] bytes = drives[drive].keeper.banks[bank];
    int before = bytes[i];
    bytes[i] = v;
    return before;
  }

  public int put(int b) throws IllegalArgumentException, IllegalStateException {
    checkByte(b);
    checkNoJob();
    if (job.size >= BUFFER_ROOM) {
      throw new IllegalStateException("the buffer is full");
    }
    job.bytes[job.size] = b;
    job.size++;
    return job.size;
  }

  public int clear() throws IllegalStateException {
    checkNoJob();
    int before = job.size;
    job.size = 0;
    return before;
  }

  public void job(int drive, int index, int sub, boolean up, boolean blocks)
      throws IndexOutOfBoundsException, IllegalArgumentException, IllegalStateException {
    checkDrive(drive);
    checkIndex(index, sub);
    checkNoJob();
    if (plans.talk != NONE) {
      throw new IllegalStateException("a talk goes on");
    }
    job.begin(drive, index + sub * 65536, up, blocks);
  }

  public int told(int what) throws IndexOutOfBoundsException {
    checkWhat(what, 4);
    switch (what) {
      case 0: return job.status;
      case 1: return job.code;
      case 2: return job.requests;
      default: return job.size;
    }
  }

  public int buffer(int i) {
    return i >= 0 && i < job.size ? job.bytes[i] : NONE;
  }

  public void plan(int drive, int serial, int watch)
      throws IndexOutOfBoundsException, IllegalArgumentException {
    checkDrive(drive);
    if (watch < 0 || watch > 1000) {
      throw new IllegalArgumentException("a watch is 0 to 1000");
    }
    plans.make(drive, serial, watch);
  }

  public int setting(int drive, int index, int sub, int number, int bytes)
      throws IndexOutOfBoundsException, IllegalArgumentException, IllegalStateException {
    checkDrive(drive);
    checkIndex(index, sub);
    if (bytes != 1 && bytes != 2 && bytes != 4) {
      throw new IllegalArgumentException("bytes are 1, 2 or 4");
    }
    int stage = plans.stages[drive];
    if (stage == Plans.NO_PLAN || stage == Plans.SETS || plans.sizes[drive] >= SETTINGS_ROOM) {
      throw new IllegalStateException("no setting can be added now");
    }
    return plans.add(drive, index + sub * 65536, number, bytes);
  }

  public int planned(int drive, int what) throws IndexOutOfBoundsException {
    checkDrive(drive);
    checkWhat(what, 5);
    switch (what) {
      case 0: return plans.stages[drive];
      case 1: return plans.tries[drive];
      case 2: return plans.sizes[drive];
      case 3: return plans.done[drive];
      default: return plans.talk == drive ? 1 : 0;
    }
  }

  public int heard(int drive, int what) throws IndexOutOfBoundsException {
    checkDrive(drive);
    checkWhat(what, 2);
    return what == 0 ? plans.heardStates[drive] : plans.heardCodes[drive];
  }

  public long logged(int i, int what) throws IndexOutOfBoundsException {
    checkWhat(what, 6);
    if (i < 0 || i >= bus.logSize || i < bus.logSize - LOG_ROOM) {
      throw new IndexOutOfBoundsException("no such frame");
    }
    int at = i % LOG_ROOM;
    int head = bus.logHeads[at];
    switch (what) {
      case 0: return head >>> 5;
      case 1: return (head & REMOTE) != 0 ? 1 : 0;
      case 2: return head & 15;
      case 3: return bus.logBytes[at];
      case 4: return bus.logStations[at];
      default: return bus.logTicks[at];
    }
  }

  public int count(int what) throws IndexOutOfBoundsException {
    checkWhat(what, 4);
    switch (what) {
      case 0: return bus.clock;
      case 1: return bus.logSize;
      case 2: return bus.lost;
      default: return bus.disturbed;
    }
  }

  private static void checkDrive(int drive) {
    if (drive < 0 || drive >= DRIVES) {
      throw new IndexOutOfBoundsException("no such drive");
    }
  }

  private static void checkStation(int station) {
    if (station < 0 || station >= STATIONS) {
      throw new IndexOutOfBoundsException("no such station");
    }
  }

  private static void checkWhat(int what, int end) {
    if (what < 0 || what >= end) {
      throw new IndexOutOfBoundsException("no such what");
    }
  }

  private static void checkBank(int drive, int bank, int i) {
    checkDrive(drive);
    if (bank < 0 || bank > 1 || i < 0 || i >= BANK_ROOM) {
      throw new IndexOutOfBoundsException("no such bank or byte");
    }
  }

  private static void checkByte(int b) {
    if (b < 0 || b > 255) {
      throw new IllegalArgumentException("a byte is 0 to 255");
    }
  }

  private static void checkIndex(int index, int sub) {
    if (index < 0 || index > 65535 || sub < 0 || sub > 255) {
      throw new IllegalArgumentException("an index is 0 to 65535, a sub 0 to 255");
    }
  }

  private void checkNoJob() {
    if (job.status == Job.RUNS) {
      throw new IllegalStateException("a job runs");
    }
  }

  private int checkEntry(int drive, int index, int sub) {
    checkDrive(drive);
    int slot = slotOf(index, sub);
    if (slot < 0) {
      throw new IllegalArgumentException("no such entry");
    }
    if (!bus.powered[drive]) {
      throw new IllegalStateException("the drive has no power");
    }
    return slot;
  }

  private static int headOf(int id, int length) {
    return id * 32 + length;
  }

  private static int byteOf(long bytes, int i) {
    return (int) (bytes >>> 8 * i) & 255;
  }

  /** Bytes 4 to 7 of a request or an answer, from a number's lowest 32 bits. */
  private static long high(long number) {
    return number << 32;
  }

  /** Up to 7 bytes behind byte 0 of a frame, 0 where there are none left. */
  private static long sevenBytes(int[] from, int at, int end) {
    long bytes = 0;
    for (int i = 0; i < 7; i++) {
      int j = at + i;
      if (j >= 0 && j < end && j < from.length) {
        bytes |= (long) from[j] << 8 * (i + 1);
      }
    }
    return bytes;
  }

  private static int piecesOf(int size) {
    return size <= 0 ? 1 : (size + 6) / 7;
  }

  /** The SUM: byte by byte, which comes to the same as the document's bit by bit. */
  private static int sumOf(int[] bytes, int n) {
    int sum = 0;
    int end = Math.min(n, bytes.length);
    for (int i = 0; i < end; i++) {
      int mix = (sum >>> 8) ^ bytes[i];
      mix ^= mix >>> 4;
      sum = ((sum << 8) ^ (mix << 12) ^ (mix << 5) ^ mix) & 0xFFFF;
    }
    return sum;
  }

  /** The slot of an entry; NONE if there is no such index, NONE - 1 if no such sub. */
  private static int slotOf(int index, int sub) {
    if (index < 0 || index > 65535) {
      return NONE;
    }
    int key = index * 256 + (sub & 255);
    int low = 0;
    int high = SLOTS - 1;
    for (int i = 0; i < 16 && low < high; i++) {
      int middle = (low + high + 1) / 2;
      if (BOOK[middle * COLUMNS] <= key) {
        low = middle;
      } else {
        high = middle - 1;
      }
    }
    int found = BOOK[low * COLUMNS];
    // Every index has a sub 0, so the nearest entry below tells whether there is the index.
    if (found >>> 8 != index) {
      return NONE;
    }
    return found == key && sub == (sub & 255) ? low : NONE - 1;
  }

  private static int kindOf(int slot) {
    return slot >= 0 && slot < SLOTS ? BOOK[slot * COLUMNS + 1] : 0;
  }

  private static boolean isNumber(int slot) {
    return (kindOf(slot) & TYPE_BITS) < TEXT;
  }

  private static int widthOf(int slot) {
    int type = kindOf(slot) & TYPE_BITS;
    return type < WIDTHS.length ? WIDTHS[type] : 0;
  }

  /** A number of a type from its bits, with its sign. */
  private static long typed(int type, long bits) {
    switch (type) {
      case U8: return bits & 0xFF;
      case U16: return bits & 0xFFFF;
      case I8: return (byte) bits;
      case I16: return (short) bits;
      case I32: return (int) bits;
      default: return bits & U32_MASK;
    }
  }

  /** What is wrong with so many bytes for an entry; 0 if nothing is. */
  private static int lengthCode(int slot, long n) {
    int type = slot >= 0 && slot < SLOTS ? BOOK[slot * COLUMNS + 1] & TYPE_BITS : TEXT;
    if (type < WIDTHS.length) {
      return n > WIDTHS[type] ? TOO_MANY_BYTES : n < WIDTHS[type] ? TOO_FEW_BYTES : 0;
    }
    return n > (type == TEXT ? TEXT_ROOM : PROGRAM_ROOM) ? TOO_MANY_BYTES : 0;
  }

  /** What is wrong with a number for an entry, whatever is in the others; 0 if nothing is. */
  private static int formCode(int slot, long v) {
    int kind = kindOf(slot);
    switch (kind & FORM_BITS) {
      case BOUNDED:
        if (v < BOOK[slot * COLUMNS + 3]) {
          return BELOW;
        }
        return v > BOOK[slot * COLUMNS + 4] ? ABOVE : 0;
      case LISTED:
        for (int i = 0; i + 1 < CHOICES.length; i += 2) {
          if (CHOICES[i] == BOOK[slot * COLUMNS] && CHOICES[i + 1] == v) {
            return 0;
          }
        }
        return NOT_ONE_OF;
      case SYNC_FORM:
        return (v & ID_BITS) == 0 || (v & ~(ID_BITS | PRODUCER)) != 0 ? NOT_ONE_OF : 0;
      case ID_FORM:
        return (v & ID_BITS) == 0 || (v & ~(ID_BITS | OFF_BIT)) != 0 ? NOT_ONE_OF : 0;
      case KIND_FORM:
        return v > 240 && v < 254 ? NOT_ONE_OF : 0;
      case IN_FORM:
      case OUT_FORM:
        return mappedCode(v, (kind & FORM_BITS) == IN_FORM ? I : O);
      default:
        return 0;
    }
  }

  private static int mappedCode(long v, int flag) {
    if (v == 0) {
      return 0;
    }
    if (flag == I && (v == 0x00050008L || v == 0x00060010L || v == 0x00070020L)) {
      return 0;
    }
    for (int slot = 0; slot < SLOTS; slot++) {
      int kind = BOOK[slot * COLUMNS + 1];
      int type = kind & TYPE_BITS;
      if (BOOK[slot * COLUMNS] == v >>> 8 && (kind & flag) != 0 && type < WIDTHS.length) {
        return (v & 255) == 8 * WIDTHS[type] ? 0 : NOT_MAPPED;
      }
    }
    return NOT_MAPPED;
  }

  /** The clock, the rows of frames of all stations, and the log. */
  private static final class Bus {
    final int rate;
    int clock;
    final int[][] outHeads = new int[STATIONS][OUT_ROOM];
    final long[][] outBytes = new long[STATIONS][OUT_ROOM];
    final int[] outSize = new int[STATIONS];
    final int[][] inHeads = new int[STATIONS][IN_ROOM];
    final long[][] inBytes = new long[STATIONS][IN_ROOM];
    final int[] inSize = new int[STATIONS];
    final boolean[] powered = new boolean[STATIONS];
    final boolean[] busOff = new boolean[STATIONS];
    final int[] offSince = new int[STATIONS];
    final int[] sendCounts = new int[STATIONS];
    final int[] takeCounts = new int[STATIONS];
    final int[] disturbances = new int[STATIONS];
    int lost;
    int disturbed;
    int logSize;
    final int[] logHeads = new int[LOG_ROOM];
    final long[] logBytes = new long[LOG_ROOM];
    final int[] logStations = new int[LOG_ROOM];
    final int[] logTicks = new int[LOG_ROOM];

    Bus(int rate) {
      this.rate = rate;
      powered[MASTER] = true;
    }

    /** A frame comes to a station's out row: whether it was not LOST. */
    boolean send(int from, int head, long bytes) {
      int at = outSize[from];
      if (at >= OUT_ROOM) {
        lost++;
        return false;
      }
      int[] heads = outHeads[from];
      long[] rows = outBytes[from];
      while (at > 0 && heads[at - 1] >>> 5 > head >>> 5) {
        heads[at] = heads[at - 1];
        rows[at] = rows[at - 1];
        at--;
      }
      heads[at] = head;
      rows[at] = bytes;
      outSize[from]++;
      return true;
    }

    /** Part 1 of a tick. */
    void carry() {
      for (int time = 0; time < rate; time++) {
        int from = winner();
        if (from == NONE) {
          return;
        }
        if (disturbances[from] > 0) {
          spoil(from);
        } else {
          pass(from);
        }
      }
    }

    private boolean isOn(int s) {
      return powered[s] && !busOff[s];
    }

    private int winner() {
      int best = NONE;
      int bestHead = 0;
      for (int s = 0; s < STATIONS; s++) {
        if (outSize[s] > 0 && isOn(s)) {
          // The ID, then whether it is REMOTE; the LENGTH doesn't count.
          int head = outHeads[s][0] >>> 4;
          if (best == NONE || head < bestHead) {
            best = s;
            bestHead = head;
          }
        }
      }
      return best;
    }

    private void spoil(int from) {
      disturbed++;
      disturbances[from]--;
      sendCounts[from] += 8;
      for (int s = 0; s < STATIONS; s++) {
        if (s != from && isOn(s) && takeCounts[s] < 128) {
          takeCounts[s]++;
        }
      }
      if (sendCounts[from] >= 256) {
        busOff[from] = true;
        offSince[from] = clock;
        outSize[from] = 0;
      }
    }

    private void pass(int from) {
      int head = outHeads[from][0];
      long bytes = outBytes[from][0];
      if (sendCounts[from] > 0) {
        sendCounts[from]--;
      }
      outSize[from]--;
      System.arraycopy(outHeads[from], 1, outHeads[from], 0, outSize[from]);
      System.arraycopy(outBytes[from], 1, outBytes[from], 0, outSize[from]);
      int at = logSize % LOG_ROOM;
      logHeads[at] = head;
      logBytes[at] = bytes;
      logStations[at] = from;
      logTicks[at] = clock;
      logSize++;
      for (int s = 0; s < STATIONS; s++) {
        if (s != from && isOn(s)) {
          deliver(s, head, bytes);
        }
      }
    }

    private void deliver(int to, int head, long bytes) {
      if (takeCounts[to] > 0) {
        takeCounts[to]--;
      }
      int at = inSize[to];
      // At most 8 frames pass in a tick and each work empties its row, so this never is.
      if (at >= IN_ROOM) {
        lost++;
        return;
      }
      inHeads[to][at] = head;
      inBytes[to][at] = bytes;
      inSize[to]++;
    }

    /** A drive that boots or loses power has nothing left on the bus. */
    void quiet(int s) {
      outSize[s] = 0;
      inSize[s] = 0;
      sendCounts[s] = 0;
      takeCounts[s] = 0;
      busOff[s] = false;
      disturbances[s] = 0;
    }

    /** Part 3 of a tick, of one station: whether it is BUS-OFF no more. */
    boolean comesBack(int s) {
      if (!busOff[s] || clock - offSince[s] < 128) {
        return false;
      }
      busOff[s] = false;
      sendCounts[s] = 0;
      takeCounts[s] = 0;
      return true;
    }
  }

  /** What a drive is and has: the entries, and what is reckoned from when they are read. */
  private static final class Data {
    final int address;
    final long[] values = new long[SLOTS];
    final int[][] rows = new int[2][PROGRAM_ROOM];
    final int[] rowSizes = new int[2];
    final int[] trace = new int[TRACE_ROOM];
    int traceFirst;
    int traceSize;
    int network;
    int power;
    long demand;
    long speed;
    long shaft;
    long moved;
    boolean held;
    int inputs;
    int anew;
    boolean saveAsked;
    boolean saving;
    boolean wanted;
    boolean savedSinceWanted;

    Data(int address) {
      this.address = address;
    }

    /** All entries, or those below 0x2000 alone, have their defaults. */
    void resetEntries(boolean whole) {
      for (int slot = 0; slot < SLOTS; slot++) {
        if (whole || BOOK[slot * COLUMNS] < INDEX_2000) {
          resetEntry(slot);
        }
      }
      if (whole) {
        rowSizes[0] = 0;
        rowSizes[1] = 0;
        traceFirst = 0;
        traceSize = 0;
      }
    }

    void resetEntry(int slot) {
      int kind = kindOf(slot);
      long first = BOOK[slot * COLUMNS + 2];
      if ((kind & PLUS) != 0) {
        first += address;
      }
      values[slot] = typed(kind & TYPE_BITS, first);
    }

    int rowSize(int slot) {
      switch (slot) {
        case DEVICE_NAME: return NAME.length;
        case NOTE: return rowSizes[0];
        case STEPS: return rowSizes[1];
        case TRACE_ROW: return 4 * traceSize;
        default: return 0;
      }
    }

    int rowByte(int slot, int i) {
      if (i < 0 || i >= rowSize(slot)) {
        return NONE;
      }
      switch (slot) {
        case DEVICE_NAME: return i < NAME.length ? NAME[i] : NONE;
        case NOTE: return i < TEXT_ROOM ? rows[0][i] : NONE;
        case STEPS: return i < PROGRAM_ROOM ? rows[1][i] : NONE;
        default: return byteOf(trace[(traceFirst + i / 4) % TRACE_ROOM], i % 4);
      }
    }

    void keepRow(int slot, int[] from, int at, int n) {
      int row = slot == NOTE ? 0 : 1;
      if (at < 0 || n < 0 || n > PROGRAM_ROOM || n > from.length - at) {
        return;
      }
      System.arraycopy(from, at, rows[row], 0, n);
      rowSizes[row] = n;
    }

    void addTrace(int number) {
      if (traceSize < TRACE_ROOM) {
        trace[(traceFirst + traceSize) % TRACE_ROOM] = number;
        traceSize++;
      } else {
        trace[traceFirst] = number;
        traceFirst = (traceFirst + 1) % TRACE_ROOM;
      }
    }

    boolean isStageOn() {
      return power >= ENABLED && power <= FAULT_REACTION;
    }

    void enter(int state) {
      if (state == OPERATIONAL && network != OPERATIONAL) {
        anew |= ANEW_DATA;
      }
      network = state;
    }
  }

  /** Emergencies of a drive, and its way to the bus: a frame of it that is LOST is one. */
  private static final class Alarms {
    private static final int ROOM = 8;
    private final Bus bus;
    private final Data data;
    private final int[] active = new int[ROOM];
    int activeSize;
    private final int[] waits = new int[ROOM];
    int waitSize;
    private boolean lostSince;
    private boolean sentSince;
    private int sentAt;

    Alarms(Bus bus, Data data) {
      this.bus = bus;
      this.data = data;
    }

    void say(int head, long bytes) {
      if (!bus.send(data.address - 1, head, bytes)) {
        lostSince = true;
        raise(LOST_FRAME);
      }
    }

    void raise(int code) {
      if (indexOf(code) == NONE && activeSize < ROOM) {
        active[activeSize] = code;
        activeSize++;
        for (int i = ROOM; i > 1; i--) {
          data.values[HISTORY + i] = data.values[HISTORY + i - 1];
        }
        data.values[HISTORY + 1] = code;
        data.values[HISTORY] = Math.min(ROOM, data.values[HISTORY] + 1);
        queue(code);
        tell();
      }
      if (code != LOST_FRAME) {
        if (data.power == ENABLED || data.power == QUICK_STOP) {
          data.power = FAULT_REACTION;
        } else if (data.power < ENABLED) {
          data.power = FAULT;
        }
      }
    }

    private int indexOf(int code) {
      for (int i = 0; i < activeSize && i < ROOM; i++) {
        if (active[i] == code) {
          return i;
        }
      }
      return NONE;
    }

    private void queue(int code) {
      if (waitSize < ROOM) {
        waits[waitSize] = code;
        waitSize++;
      }
    }

    /** 0x603F and 0x1001, from what is active. */
    private void tell() {
      int register = 0;
      for (int i = 0; i < activeSize && i < ROOM; i++) {
        int group = active[i] >>> 8;
        register |= group == 0x81 ? 0x11 : group == 0x86 ? 0x21 : group == 0xFF ? 0x81 : 1;
      }
      data.values[ERROR_REGISTER] = register;
      data.values[ERROR_CODE] = activeSize > 0 && activeSize <= ROOM ? active[activeSize - 1] : 0;
    }

    private void drop(int at) {
      activeSize--;
      for (int i = at; i < activeSize && i + 1 < ROOM; i++) {
        active[i] = active[i + 1];
      }
      tell();
      if (activeSize == 0) {
        queue(0);
      }
    }

    void resetFaults() {
      int at = 0;
      for (int i = 0; i < ROOM && at < activeSize; i++) {
        if (active[at] == LOST_FRAME) {
          at++;
        } else {
          drop(at);
        }
      }
    }

    /** Part I of the work. */
    void settle() {
      if (!lostSince && activeSize > 0) {
        int at = indexOf(LOST_FRAME);
        if (at != NONE) {
          drop(at);
        }
      }
      lostSince = false;
      if (waitSize > 0 && data.network != STOPPED
          && (!sentSince || bus.clock - sentAt >= data.values[EMERGENCY_REST])) {
        sendFirst();
      }
    }

    private void sendFirst() {
      int code = waits[0];
      waitSize--;
      for (int i = 0; i < waitSize && i + 1 < ROOM; i++) {
        waits[i] = waits[i + 1];
      }
      sentSince = true;
      sentAt = bus.clock;
      say(headOf(0x80 + data.address, 8), code | data.values[ERROR_REGISTER] << 16);
    }

    void forget(boolean whole) {
      waitSize = 0;
      sentSince = false;
      if (whole) {
        activeSize = 0;
      }
      tell();
    }
  }

  /** What the modes do in state 4: places, speeds, following, homing, programs. */
  private static final class Modes {
    private static final int PROGRAMS = -1;
    private static final int PLACES = 1;
    private static final int SPEEDS = 3;
    private static final int HOMES = 6;
    private static final int FOLLOWS = 8;
    private static final int NEW_GOAL = 0x10;
    private static final long WIDEST = 4000000000L;
    private static final int[] STATUS_BASES = {0, 0x40, 0x21, 0x33, 0x37, 0x17, 0x1F, 0x08};

    private final Data data;
    private final Alarms alarms;
    // A GOAL: its place in MILLIONTHS, its speed, and the changes up and down.
    private final long[] goal = new long[4];
    private final long[] next = new long[4];
    private final int[] rounds = new int[STEPS_ROOM];
    private boolean hasGoal;
    private boolean hasNext;
    private boolean hasTaken;
    private long taken;
    private int near;
    private boolean bit12;
    private boolean bit13;
    private boolean goesOn;
    private int method;
    private int phase;
    private int step;
    private int waited;
    int wordBefore;

    Modes(Data data, Alarms alarms) {
      this.data = data;
      this.alarms = alarms;
    }

    void beginAnew() {
      hasGoal = false;
      hasNext = false;
      hasTaken = false;
      near = 0;
      bit12 = false;
      bit13 = false;
      goesOn = false;
    }

    void brake(long change) {
      long size = Math.max(0, Math.abs(data.speed) - change);
      data.speed = data.speed < 0 ? -size : size;
    }

    void brakeForFault() {
      brake(data.values[data.values[FAULT_OPTION] == 1 ? SPEED_DOWN : QUICK_DOWN]);
    }

    void run() {
      int word = (int) data.values[CONTROL];
      boolean rises = (word & NEW_GOAL) != 0 && (wordBefore & NEW_GOAL) == 0;
      switch ((int) data.values[MODE]) {
        case PLACES:
          goPlaces(word, rises);
          break;
        case SPEEDS:
          goSpeed();
          break;
        case FOLLOWS:
          goTo(MILLION * cut(data.values[TARGET]), 1000 * data.values[TOP_SPEED], data.values[SPEED_UP],
              data.values[SPEED_DOWN]);
          break;
        case HOMES:
          goHome(word, rises);
          break;
        case PROGRAMS:
          goProgram(word, rises);
          break;
        default:
          brake(data.values[SPEED_DOWN]);
          break;
      }
    }

    private void goTo(long target, long top, long up, long down) {
      long way = target - data.demand;
      long speed = data.speed;
      if (way == 0 || speed != 0 && speed > 0 != way > 0) {
        brake(down);
        return;
      }
      long size = Math.abs(speed);
      long fastest = fastest(Math.max(0, size - down), Math.min(size + up, top), down, Math.abs(way));
      data.speed = way > 0 ? fastest : -fastest;
    }

    /** The greatest size from low to high that can still stop in time; low if there is none. */
    private static long fastest(long low, long high, long down, long way) {
      if (high <= low) {
        return low;
      }
      if (stops(high, down, way)) {
        return high;
      }
      long good = low;
      long bad = high;
      for (int i = 0; i < 64 && bad - good > 1; i++) {
        long middle = good + (bad - good) / 2;
        if (stops(middle, down, way)) {
          good = middle;
        } else {
          bad = middle;
        }
      }
      return good;
    }

    private static boolean stops(long size, long down, long way) {
      long n = down < 1 ? 0 : size / down;
      return size + n * size - down * n * (n + 1) / 2 <= way;
    }

    private long cut(long increments) {
      long least = data.values[LEAST];
      long greatest = data.values[GREATEST];
      if (least > greatest) {
        least = -WIDEST;
        greatest = WIDEST;
      }
      return Math.max(least, Math.min(greatest, increments));
    }

    /** A speed in MILLIONTHS a tick, from that of an entry. */
    private long fast(long speed) {
      return 1000 * Math.min(speed, data.values[TOP_SPEED]);
    }

    private boolean standsAt(long target) {
      return data.speed == 0 && data.demand == target;
    }

    private long demandIncrements() {
      return Math.floorDiv(data.demand, MILLION);
    }

    private void goPlaces(int word, boolean rises) {
      if ((word & NEW_GOAL) == 0) {
        bit12 = false;
      }
      if (rises && !bit12) {
        takeGoal(word);
      }
      if (hasNext && standsAt(goal[0])) {
        System.arraycopy(next, 0, goal, 0, 4);
        hasNext = false;
      }
      if (hasGoal) {
        goTo(goal[0], goal[1], goal[2], goal[3]);
      } else {
        brake(data.values[SPEED_DOWN]);
      }
    }

    private void takeGoal(int word) {
      long increments = data.values[TARGET];
      if ((word & 0x40) != 0) {
        increments += hasTaken ? taken : demandIncrements();
      }
      taken = cut(increments);
      hasTaken = true;
      bit12 = true;
      boolean now = (word & 0x20) != 0 || !hasGoal || !hasNext && standsAt(goal[0]);
      long[] row = now ? goal : next;
      row[0] = taken * MILLION;
      row[1] = fast(data.values[SPEED]);
      row[2] = data.values[SPEED_UP];
      row[3] = data.values[SPEED_DOWN];
      hasGoal = true;
      hasNext = !now;
    }

    /** NEAR, behind part G. */
    void lookNear() {
      if (data.power != ENABLED || data.values[MODE] != PLACES) {
        return;
      }
      boolean there = hasGoal && !hasNext && standsAt(goal[0])
          && Math.abs(data.shaft - goal[0]) <= data.values[NEAR] * MILLION;
      near = there ? near + 1 : 0;
    }

    /** 0x60FF, FAST, in MILLIONTHS a tick. */
    private long speedWanted() {
      long top = data.values[TOP_SPEED];
      return 1000 * Math.max(-top, Math.min(top, data.values[SPEED_WANTED]));
    }

    private void goSpeed() {
      long w = speedWanted();
      if (w == 0) {
        brake(data.values[SPEED_DOWN]);
      } else {
        long edge = MILLION * cut(w > 0 ? WIDEST : -WIDEST);
        goTo(edge, Math.abs(w), data.values[SPEED_UP], data.values[SPEED_DOWN]);
      }
    }

    private void goHome(int word, boolean rises) {
      if (rises) {
        bit12 = false;
        method = (int) data.values[HOMING];
        bit13 = data.speed != 0 || method == 0;
        goesOn = !bit13;
        phase = 1;
      }
      if ((word & NEW_GOAL) == 0) {
        goesOn = false;
        bit13 = false;
      }
      if (goesOn && method == 35) {
        arrive();
      } else if (goesOn) {
        seek();
      }
      if (!goesOn) {
        brake(data.values[HOMING_CHANGE]);
      }
    }

    /** Homing to a switch: 17 the negative, 18 the positive one. */
    private void seek() {
      boolean pressed = (data.inputs & (method == 17 ? 1 : 2)) != 0;
      long towards = method == 17 ? -1 : 1;
      if (phase == 1) {
        if (!pressed) {
          approach(towards * fast(data.values[HOMING_FAST]));
          return;
        }
        phase = 2;
      }
      if (phase == 2) {
        if (data.speed != 0) {
          brake(data.values[HOMING_CHANGE]);
          return;
        }
        phase = 3;
      }
      if (phase == 3) {
        if (pressed) {
          approach(-towards * fast(data.values[HOMING_SLOW]));
          return;
        }
        phase = 4;
      }
      if (data.speed == 0) {
        arrive();
      } else {
        brake(data.values[HOMING_CHANGE]);
      }
    }

    private void approach(long speed) {
      long change = data.values[HOMING_CHANGE];
      data.speed = Math.max(data.speed - change, Math.min(data.speed + change, speed));
    }

    private void arrive() {
      long home = data.values[HOME] * MILLION;
      data.shaft += home - data.demand;
      data.demand = home;
      bit12 = true;
      goesOn = false;
    }

    private void goProgram(int word, boolean rises) {
      if (rises) {
        bit12 = false;
        goesOn = true;
        Arrays.fill(rounds, 0);
        beginStep(0);
      }
      if ((word & NEW_GOAL) == 0) {
        goesOn = false;
      }
      boolean failed = false;
      if (goesOn && standsAt(goal[0])) {
        if (waited < stepNumber(8, 2)) {
          waited++;
        } else {
          failed = !endStep();
        }
      }
      if (failed) {
        goesOn = false;
        alarms.raise(BAD_STEP);
        brakeForFault();
      } else if (goesOn) {
        goTo(goal[0], goal[1], data.values[SPEED_UP], data.values[SPEED_DOWN]);
      } else {
        brake(data.values[SPEED_DOWN]);
      }
    }

    private int stepCount() {
      return data.rowSizes[1] / STEP_BYTES;
    }

    /** A number of the step that goes on: so many bytes from one of them on, without sign. */
    private long stepNumber(int from, int bytes) {
      long number = 0;
      for (int i = 0; i < bytes; i++) {
        int at = step * STEP_BYTES + from + i;
        if (at >= 0 && at < PROGRAM_ROOM) {
          number |= (long) data.rows[1][at] << 8 * i;
        }
      }
      return number;
    }

    private void beginStep(int number) {
      if (number >= stepCount()) {
        goesOn = false;
        bit12 = true;
        return;
      }
      step = number;
      waited = 0;
      long increments = (int) stepNumber(0, 4);
      if ((stepNumber(11, 1) & 0x80) != 0) {
        increments += demandIncrements();
      }
      goal[0] = MILLION * cut(increments);
      goal[1] = fast(Math.max(1, stepNumber(4, 4)));
    }

    /** The step that goes on is over: whether there is one to begin, if it tells of one. */
    private boolean endStep() {
      if (step < 0 || step >= STEPS_ROOM) {
        return false;
      }
      if (rounds[step] < stepNumber(10, 1)) {
        rounds[step]++;
        int from = (int) stepNumber(11, 1) & 15;
        if (from >= stepCount() || from > step) {
          return false;
        }
        beginStep(from);
      } else {
        rounds[step] = 0;
        beginStep(step + 1);
      }
      return true;
    }

    /** 0x6041. */
    int status() {
      int power = data.power;
      int status = power >= 0 && power < STATUS_BASES.length ? STATUS_BASES[power] : 0;
      if (data.network == OPERATIONAL) {
        status |= 0x200;
      }
      if (power != ENABLED) {
        return status;
      }
      boolean stands = data.speed == 0;
      boolean target = false;
      boolean limit = false;
      boolean twelve = bit12;
      switch ((int) data.values[MODE]) {
        case PLACES:
          target = near >= 1 && near >= data.values[NEAR_TICKS];
          break;
        case SPEEDS:
          long w = speedWanted();
          target = data.speed == w;
          limit = w != 0 && standsAt(MILLION * cut(w > 0 ? WIDEST : -WIDEST));
          twelve = stands;
          break;
        case FOLLOWS:
          target = standsAt(MILLION * cut(data.values[TARGET]));
          twelve = true;
          break;
        case HOMES:
        case PROGRAMS:
          target = stands && !goesOn;
          break;
        default:
          break;
      }
      return status | (target ? 0x400 : 0) | (limit ? 0x800 : 0) | (twelve ? 0x1000 : 0)
          | (bit13 ? 0x2000 : 0);
    }
  }

  /** The power state, the demand and the shaft: parts E, F and G of the work. */
  private static final class Axis {
    private static final int DISABLE = 0;
    private static final int STOP = 1;
    private static final int SHUT = 2;
    private static final int ON = 3;
    private static final int ENABLE = 4;
    private static final long SHAFT_STEP = 3000000000L;

    private final Data data;
    private final Alarms alarms;
    private final Modes modes;
    private int leavesFor;
    private boolean begins;
    private int wordBefore;
    private long coast;
    private long farTicks;
    private int probeBefore;
    private int works;

    Axis(Data data, Alarms alarms, Modes modes) {
      this.data = data;
      this.alarms = alarms;
      this.modes = modes;
    }

    /** The drive boots, or loses power: only the shaft stays where it is. */
    void rest() {
      data.power = SWITCH_ON_DISABLED;
      data.demand = data.shaft;
      data.speed = 0;
      data.moved = 0;
      leavesFor = 0;
      begins = false;
      wordBefore = 0;
      coast = 0;
      farTicks = 0;
      probeBefore = 0;
      works = 0;
      modes.wordBefore = 0;
      modes.beginAnew();
    }

    int push(int increments, boolean hold) {
      data.shaft += increments * MILLION;
      data.held = hold;
      if (hold) {
        coast = 0;
      }
      return (int) Math.floorDiv(data.shaft, MILLION);
    }

    private static int orderOf(int word) {
      if ((word & 2) == 0) {
        return DISABLE;
      }
      if ((word & 4) == 0) {
        return STOP;
      }
      if ((word & 1) == 0) {
        return SHUT;
      }
      return (word & 8) == 0 ? ON : ENABLE;
    }

    /** Part E of the work. */
    void turn() {
      int word = (int) data.values[CONTROL];
      int order = orderOf(word);
      switch (data.power) {
        case SWITCH_ON_DISABLED:
          if (order == SHUT) {
            data.power = READY;
          }
          break;
        case READY:
          if (order == ON || order == ENABLE) {
            data.power = SWITCHED_ON;
          } else if (order != SHUT) {
            data.power = SWITCH_ON_DISABLED;
          }
          break;
        case SWITCHED_ON:
          if (order == ENABLE) {
            enable();
          } else if (order == SHUT) {
            data.power = READY;
          } else if (order != ON) {
            data.power = SWITCH_ON_DISABLED;
          }
          break;
        case ENABLED:
          turnEnabled(order);
          break;
        case QUICK_STOP:
          turnQuickStop(order);
          break;
        case FAULT_REACTION:
          if (data.values[FAULT_OPTION] == 0 || data.speed == 0) {
            data.power = FAULT;
          }
          break;
        case FAULT:
          if ((word & 0x80) != 0 && (wordBefore & 0x80) == 0) {
            alarms.resetFaults();
            data.power = SWITCH_ON_DISABLED;
          }
          break;
        default:
          break;
      }
      wordBefore = word;
    }

    private void enable() {
      data.power = ENABLED;
      leavesFor = 0;
      begins = true;
    }

    private void turnEnabled(int order) {
      switch (order) {
        case DISABLE:
          data.power = SWITCH_ON_DISABLED;
          return;
        case STOP:
          data.power = data.values[QUICK_OPTION] == 0 ? SWITCH_ON_DISABLED : QUICK_STOP;
          return;
        case SHUT:
          leave(data.values[SHUT_OPTION] == 0, READY);
          break;
        case ON:
          leave(data.values[DISABLE_OPTION] == 0, SWITCHED_ON);
          break;
        default:
          leavesFor = 0;
          break;
      }
    }

    private void leave(boolean atOnce, int state) {
      leavesFor = state;
      if (atOnce || data.speed == 0) {
        data.power = state;
      }
    }

    private void turnQuickStop(int order) {
      long option = data.values[QUICK_OPTION];
      if (order == DISABLE) {
        data.power = SWITCH_ON_DISABLED;
      } else if (order == ENABLE && option >= 5) {
        enable();
      } else if (data.speed == 0 && option <= 2) {
        data.power = SWITCH_ON_DISABLED;
      }
    }

    /** Part F of the work. */
    void move() {
      chooseMode();
      boolean halts = (data.values[CONTROL] & 0x100) != 0 && data.values[MODE] != Modes.FOLLOWS;
      if (!data.isStageOn()) {
        data.speed = 0;
        data.demand = data.shaft;
      } else if (data.power == QUICK_STOP) {
        long option = data.values[QUICK_OPTION];
        modes.brake(data.values[option == 1 || option == 5 ? SPEED_DOWN : QUICK_DOWN]);
      } else if (data.power == FAULT_REACTION) {
        modes.brakeForFault();
      } else if (leavesFor != 0) {
        modes.brake(data.values[SPEED_DOWN]);
      } else if (halts) {
        modes.brake(data.values[data.values[HALT_OPTION] == 1 ? SPEED_DOWN : QUICK_DOWN]);
      } else if (data.values[MODE] != Modes.HOMES && isAtSwitch()) {
        alarms.raise(AT_SWITCH);
        modes.brakeForFault();
      } else {
        modes.run();
      }
      data.demand += data.speed;
      modes.wordBefore = (int) data.values[CONTROL];
    }

    private void chooseMode() {
      long wanted = data.values[MODE_WANTED];
      if (data.power != ENABLED) {
        data.values[MODE] = wanted;
        return;
      }
      if (data.speed == 0 && data.values[MODE] != wanted) {
        data.values[MODE] = wanted;
        begins = true;
      }
      if (begins) {
        modes.beginAnew();
        begins = false;
      }
    }

    private boolean isAtSwitch() {
      return data.speed > 0 && (data.inputs & 2) != 0 || data.speed < 0 && (data.inputs & 1) != 0;
    }

    /** Part G of the work. */
    void follow() {
      boolean stage = data.isStageOn();
      long way = 0;
      if (!data.held) {
        way = stage ? Math.max(-SHAFT_STEP, Math.min(SHAFT_STEP, data.demand - data.shaft)) : coast / 2;
      }
      data.shaft += way;
      data.moved = way;
      coast = way;
      if (!stage) {
        data.demand = data.shaft;
      }
      watchDistance(stage);
      trace();
      probe();
      modes.lookNear();
    }

    private void watchDistance(boolean stage) {
      long far = data.values[FAR];
      if (!stage || far == 0 || Math.abs(data.demand - data.shaft) <= far * MILLION) {
        farTicks = 0;
        return;
      }
      farTicks++;
      if (farTicks > data.values[FAR_TICKS]) {
        farTicks = 0;
        alarms.raise(TOO_FAR);
      }
    }

    private void trace() {
      works++;
      if ((data.anew & ANEW_TRACE) != 0 || works >= data.values[TRACE_EVERY]) {
        data.anew &= ~ANEW_TRACE;
        works = 0;
        data.addTrace((int) Math.floorDiv(data.shaft, MILLION));
      }
    }

    private void probe() {
      int now = data.inputs >>> 2 & 1;
      int before = probeBefore;
      probeBefore = now;
      if (now != before && (data.values[PROBE] & 1) != 0) {
        if (now == 1) {
          catchShaft(0x10, 2, PROBE_UP);
        } else {
          catchShaft(0x20, 4, PROBE_DOWN);
        }
      }
    }

    private void catchShaft(int edge, int caught, int slot) {
      long control = data.values[PROBE];
      boolean free = (data.values[PROBE_STATUS] & caught) == 0 || (control & 2) != 0;
      if ((control & edge) != 0 && free) {
        data.values[slot] = (int) Math.floorDiv(data.shaft, MILLION);
        data.values[PROBE_STATUS] |= caught;
      }
    }
  }

  /** Entries as transfers and process data read and write them. */
  private static final class Access {
    private final Data data;
    private final Modes modes;

    Access(Data data, Modes modes) {
      this.data = data;
      this.modes = modes;
    }

    /** What a number among the entries is. */
    long number(int slot) {
      switch (slot) {
        case STATUS: return modes.status();
        case DEMAND: return (int) Math.floorDiv(data.demand, MILLION);
        case SHAFT: return (int) Math.floorDiv(data.shaft, MILLION);
        case DEMAND_SPEED: return (int) (data.speed / 1000);
        case SHAFT_SPEED: return (int) (data.moved / 1000);
        case SWITCHES: return data.inputs + (data.held ? 65536 : 0);
        case PROBE_STATUS: return data.values[PROBE_STATUS] | data.values[PROBE] & 1;
        default: return slot >= 0 && slot < SLOTS ? data.values[slot] : 0;
      }
    }

    static int readCode(int slot) {
      if (slot < 0 || slot >= SLOTS) {
        return slot == NONE ? NO_INDEX : NO_SUB;
      }
      return (BOOK[slot * COLUMNS + 1] & R) == 0 ? NOT_READ : 0;
    }

    static int writeCode(int slot) {
      if (slot < 0 || slot >= SLOTS) {
        return slot == NONE ? NO_INDEX : NO_SUB;
      }
      return (BOOK[slot * COLUMNS + 1] & W) == 0 ? NOT_WRITTEN : 0;
    }

    /** Bytes are written to an entry that can be written: the code, 0 if all is well. */
    int write(int slot, int[] from, int n) {
      int kind = kindOf(slot);
      int type = kind & TYPE_BITS;
      int code = lengthCode(slot, n);
      if (code != 0) {
        return code;
      }
      if ((kind & X) != 0 && data.power == ENABLED) {
        return NOT_NOW;
      }
      if (type >= TEXT) {
        if (type == PROGRAM && n % STEP_BYTES != 0) {
          return NOT_ONE_OF;
        }
        data.keepRow(slot, from, 0, n);
        return 0;
      }
      long bits = 0;
      for (int i = 0; i < n && i < from.length; i++) {
        bits |= (long) from[i] << 8 * i;
      }
      return writeNumber(slot, typed(type, bits));
    }

    int writeNumber(int slot, long v) {
      int code = mapShutCode(slot);
      if (code == 0) {
        code = formCode(slot, v);
      }
      if (code == 0) {
        code = changeCode(slot, v);
      }
      if (code == 0) {
        accept(slot, v);
      }
      return code;
    }

    /** The first row of the map that an entry belongs to; NONE if it is in no map. */
    private static int mapOf(int slot) {
      if (slot >= IN_MAP && slot < IN_MAP + MAPS * MAP_ROWS) {
        return slot - (slot - IN_MAP) % MAP_ROWS;
      }
      if (slot >= OUT_MAP && slot < OUT_MAP + MAPS * MAP_ROWS) {
        return slot - (slot - OUT_MAP) % MAP_ROWS;
      }
      return NONE;
    }

    private int mapShutCode(int slot) {
      int map = mapOf(slot);
      if (map == NONE) {
        return 0;
      }
      int id = map < OUT_MAP ? IN + (map - IN_MAP) / MAP_ROWS * IN_ROWS + 1
          : OUT + (map - OUT_MAP) / MAP_ROWS * OUT_ROWS + 1;
      boolean shut = (data.values[id] & OFF_BIT) == 0 || slot != map && data.values[map] != 0;
      return shut ? NOT_AS_THINGS_ARE : 0;
    }

    /** What is wrong with a number of a right form, as the entries are now. */
    private int changeCode(int slot, long v) {
      long before = data.values[slot];
      boolean otherId = (before & ID_BITS) != (v & ID_BITS);
      switch (kindOf(slot) & FORM_BITS) {
        case SYNC_FORM:
          return otherId && (before & v & PRODUCER) != 0 ? NOT_ONE_OF : 0;
        case ID_FORM:
          return otherId && ((before | v) & OFF_BIT) == 0 ? NOT_ONE_OF : 0;
        default:
          break;
      }
      if (slot == SAVE_WORD) {
        return v != SAVE_NUMBER || data.saving ? WRONG_WORD : 0;
      }
      if (slot == RESTORE_WORD) {
        return v != RESTORE_NUMBER ? WRONG_WORD : 0;
      }
      return mapOf(slot) == slot ? mapCode(data, slot, v) : 0;
    }

    /** What is wrong with a map, if sub 0 of it is n. */
    static int mapCode(Data data, int map, long n) {
      long bits = 0;
      for (int i = 1; i <= n && i < MAP_ROWS; i++) {
        long v = data.values[map + i];
        if (v == 0) {
          return NOT_MAPPED;
        }
        bits += v & 255;
      }
      return bits > 64 ? MAP_TOO_LONG : 0;
    }

    private void accept(int slot, long v) {
      switch (slot) {
        case SAVE_WORD:
          data.saveAsked = true;
          return;
        case RESTORE_WORD:
          data.wanted = true;
          data.savedSinceWanted = false;
          return;
        case HISTORY:
          for (int i = 1; i <= 8; i++) {
            data.values[HISTORY + i] = 0;
          }
          break;
        case PROBE:
          data.values[PROBE_STATUS] = 0;
          break;
        default:
          data.anew |= anewOf(slot);
          break;
      }
      data.values[slot] = v;
    }

    private static int anewOf(int slot) {
      switch (slot) {
        case SYNC_ID:
        case SYNC_CYCLE: return ANEW_SYNC;
        case HEARTBEAT: return ANEW_HEARTBEAT;
        case AWAITED: return ANEW_AWAITED;
        case AWAITED + 1: return ANEW_AWAITED << 1;
        case TRACE_EVERY: return ANEW_TRACE;
        default: break;
      }
      if (slot < IN || slot >= OUT_MAP + MAPS * MAP_ROWS) {
        return 0;
      }
      if (slot < IN_MAP) {
        return ANEW_IN << (slot - IN) / IN_ROWS;
      }
      if (slot < OUT) {
        return ANEW_IN << (slot - IN_MAP) / MAP_ROWS;
      }
      return ANEW_OUT << (slot < OUT_MAP ? (slot - OUT) / OUT_ROWS : (slot - OUT_MAP) / MAP_ROWS);
    }
  }

  /** The transfer of a drive: what answers the requests. */
  private static final class Transfer {
    static final int CLOSED = 0;
    private static final int DOWN_SEGMENTS = 1;
    private static final int DOWN_BLOCKS = 2;
    private static final int UP_SEGMENTS = 3;
    private static final int UP_BLOCKS = 4;
    private static final int PATIENCE = 200;
    private static final int MOST_PIECES = 24;
    private static final int BLOCK = 8;
    private static final int MOST_UP = 16;

    // What a request leads to, where it is no code of an abort.
    private static final int ANSWERS = 0;
    private static final int SILENT = -1;
    private static final int READS = -2;
    private static final int WRITES = -3;
    private static final int GIVES_BLOCK = -4;

    private final Bus bus;
    private final Data data;
    private final Access access;
    private final Alarms alarms;
    int open;
    // Bytes 1 to 3 of what opened it: index and sub.
    private long where;
    private int slot;
    private long told;
    private final int[] bytes = new int[MOST_PIECES * 7];
    private int size;
    private int turn;
    private int latest;
    // Of blocks: the last number that counted, the pieces so far, how many a block has, how
    // many were sent in it, and which request must come.
    private int last;
    private int pieces;
    private int blockSize;
    private int sent;
    private int due;
    private long reply;

    Transfer(Bus bus, Data data, Access access, Alarms alarms) {
      this.bus = bus;
      this.data = data;
      this.access = access;
      this.alarms = alarms;
    }

    private static long whereOf(long b) {
      return b >>> 8 & 0xFFFFFF;
    }

    private void abort(long b, int code) {
      long of = open == CLOSED ? whereOf(b) : where;
      open = CLOSED;
      alarms.say(headOf(0x580 + data.address, 8), 0x80 | of << 8 | high(code));
    }

    /** Part D of the work. */
    void losePatience() {
      if (open != CLOSED && bus.clock - latest > PATIENCE) {
        abort(0, TIMED_OUT);
      }
    }

    void request(long b) {
      latest = bus.clock;
      int c = byteOf(b, 0);
      int code = judge(b, c);
      if (code == READS) {
        code = loadBytes(b);
        if (code == 0) {
          code = c < 0x80 ? openUp(b) : openUpBlocks(b);
        }
      } else if (code == WRITES) {
        code = access.write(slot, bytes, size);
        if (code == 0) {
          open = CLOSED;
        }
      }
      if (code > 0) {
        abort(b, code);
      } else if (code == ANSWERS) {
        alarms.say(headOf(0x580 + data.address, 8), reply);
      } else if (code == GIVES_BLOCK) {
        giveBlock();
      }
    }

    private int judge(long b, int c) {
      if (open == DOWN_BLOCKS) {
        if (c == 0x80) {
          return close();
        }
        return due == 0 ? takePiece(b, c) : endBlocks(b, c);
      }
      if (open == UP_BLOCKS && c >= 0xA0 && c < 0xC0) {
        return goOnUpBlocks(b, c);
      }
      switch (c >>> 5) {
        case 0: return takeSegment(b, c);
        case 1: return openDown(b, c);
        case 2:
          open = CLOSED;
          return READS;
        case 3: return giveSegment(c);
        case 4: return close();
        case 5:
          if (c != 0xA0 && c != 0xA4) {
            return BAD_COMMAND;
          }
          open = CLOSED;
          return READS;
        case 6: return openDownBlocks(b, c);
        default: return BAD_COMMAND;
      }
    }

    private int close() {
      open = CLOSED;
      return SILENT;
    }

    private int openDown(long b, int c) {
      open = CLOSED;
      int code = beginDown(b, (c & 3) == 1);
      if (code != 0) {
        return code;
      }
      reply = 0x60 | where << 8;
      if ((c & 2) == 0) {
        open = DOWN_SEGMENTS;
        return ANSWERS;
      }
      size = 4 - (c >>> 2 & 3);
      if ((c & 1) == 0) {
        size = isNumber(slot) ? widthOf(slot) : 4;
      }
      for (int i = 0; i < 4; i++) {
        bytes[i] = byteOf(b, 4 + i);
      }
      return WRITES;
    }

    /** A download begins: the codes up to that of the bytes that are told, if they are. */
    private int beginDown(long b, boolean tells) {
      slot = slotOf((int) (b >>> 8) & 0xFFFF, (int) (b >>> 24) & 255);
      where = whereOf(b);
      size = 0;
      turn = 0;
      last = 0;
      pieces = 0;
      due = 0;
      told = tells ? b >>> 32 : NONE;
      int code = Access.writeCode(slot);
      return code == 0 && tells ? lengthCode(slot, told) : code;
    }

    private int takeSegment(long b, int c) {
      if (open != DOWN_SEGMENTS) {
        return BAD_COMMAND;
      }
      if ((c >>> 4 & 1) != turn) {
        return BAD_TURN;
      }
      int n = 7 - (c >>> 1 & 7);
      if (size + n > BUFFER_ROOM || told != NONE && size + n > told) {
        return TOO_MANY_BYTES;
      }
      for (int i = 0; i < n; i++) {
        bytes[size + i] = byteOf(b, 1 + i);
      }
      size += n;
      turn ^= 1;
      reply = 0x20 | c & 0x10;
      if ((c & 1) == 0) {
        return ANSWERS;
      }
      return size < told ? TOO_FEW_BYTES : WRITES;
    }

    /** The bytes of the entry of a request, as they are now: the code of reading. */
    private int loadBytes(long b) {
      int found = slotOf((int) (b >>> 8) & 0xFFFF, (int) (b >>> 24) & 255);
      int code = Access.readCode(found);
      if (code != 0) {
        return code;
      }
      where = whereOf(b);
      turn = 0;
      pieces = 0;
      sent = 0;
      if (isNumber(found)) {
        size = widthOf(found);
        long number = access.number(found);
        for (int i = 0; i < size; i++) {
          bytes[i] = byteOf(number, i);
        }
      } else {
        size = data.rowSize(found);
        for (int i = 0; i < size && i < bytes.length; i++) {
          bytes[i] = data.rowByte(found, i);
        }
      }
      return 0;
    }

    private int openUp(long b) {
      if (size >= 1 && size <= 4) {
        reply = 0x43 + 4 * (4 - size) | whereOf(b) << 8 | sevenBytes(bytes, 0, size) << 24;
      } else {
        open = UP_SEGMENTS;
        reply = 0x41 | whereOf(b) << 8 | high(size);
      }
      return ANSWERS;
    }

    private int giveSegment(int c) {
      if (open != UP_SEGMENTS) {
        return BAD_COMMAND;
      }
      if ((c >>> 4 & 1) != turn) {
        return BAD_TURN;
      }
      int n = Math.min(7, size - sent);
      long seven = sevenBytes(bytes, sent, size);
      sent += n;
      turn ^= 1;
      reply = c & 0x10 | 2 * (7 - n) | seven;
      if (sent >= size) {
        reply |= 1;
        open = CLOSED;
      }
      return ANSWERS;
    }

    private int openDownBlocks(long b, int c) {
      open = CLOSED;
      int code = (c & 1) != 0 ? BAD_COMMAND : beginDown(b, (c & 2) != 0);
      if (code != 0) {
        return code;
      }
      open = DOWN_BLOCKS;
      reply = 0xA4 | where << 8 | high(BLOCK);
      return ANSWERS;
    }

    private int takePiece(long b, int c) {
      int number = c & 127;
      boolean counts = number == last + 1;
      if (counts) {
        if (pieces >= MOST_PIECES) {
          return TOO_MANY_BYTES;
        }
        for (int i = 0; i < 7; i++) {
          bytes[pieces * 7 + i] = byteOf(b, 1 + i);
        }
        pieces++;
        last = number;
      }
      boolean isLast = counts && (c & 0x80) != 0;
      if (!isLast && number != BLOCK) {
        return SILENT;
      }
      reply = 0xA2 | last << 8 | BLOCK << 16;
      last = 0;
      due = isLast ? 0xC1 : 0;
      return ANSWERS;
    }

    private int endBlocks(long b, int c) {
      if (c < 0xC1 || c > 0xDD || (c & 3) != 1) {
        return BAD_COMMAND;
      }
      size = pieces * 7 - (c - 0xC1) / 4;
      if (sumOf(bytes, size) != ((int) (b >>> 8) & 0xFFFF)) {
        return BAD_SUM;
      }
      if (size > BUFFER_ROOM || told != NONE && size > told) {
        return TOO_MANY_BYTES;
      }
      reply = 0xA1;
      return size < told ? TOO_FEW_BYTES : WRITES;
    }

    private int openUpBlocks(long b) {
      blockSize = byteOf(b, 4);
      int code = blockSizeCode();
      if (code == 0) {
        open = UP_BLOCKS;
        due = 0xA3;
        reply = 0xC6 | where << 8 | high(size);
      }
      return code;
    }

    private int blockSizeCode() {
      return blockSize < 1 || blockSize > MOST_UP ? BAD_BLOCK_SIZE : 0;
    }

    private int goOnUpBlocks(long b, int c) {
      if (c != due) {
        return BAD_COMMAND;
      }
      if (c == 0xA3) {
        return GIVES_BLOCK;
      }
      if (c == 0xA1) {
        return close();
      }
      int came = byteOf(b, 1);
      if (came > sent) {
        return BAD_PIECE;
      }
      blockSize = byteOf(b, 2);
      pieces += came;
      int code = blockSizeCode();
      if (code != 0 || pieces < piecesOf(size)) {
        return code != 0 ? code : GIVES_BLOCK;
      }
      due = 0xA1;
      reply = 0xC1 + 4 * (pieces * 7 - size) | (long) sumOf(bytes, size) << 8;
      return ANSWERS;
    }

    private void giveBlock() {
      int left = piecesOf(size) - pieces;
      sent = Math.min(blockSize, left);
      for (int i = 1; i <= sent; i++) {
        int c = i == left ? i | 0x80 : i;
        long seven = sevenBytes(bytes, (pieces + i - 1) * 7, size);
        alarms.say(headOf(0x580 + data.address, 8), c | seven);
      }
      due = 0xA2;
    }
  }

  /** SYNC and the process data of a drive. */
  private static final class ProcessData {
    private static final int AT_ONCE = 254;

    private final Bus bus;
    private final Data data;
    private final Access access;
    private final Alarms alarms;
    // The maps, four rows for each k: slots (below 0 a GAP) and bits.
    private final int[] inSlots = new int[16];
    private final int[] inWidths = new int[16];
    private final int[] outSlots = new int[16];
    private final int[] outWidths = new int[16];
    private final int[] inBits = new int[MAPS];
    private final int[] outBits = new int[MAPS];
    private final boolean[] inWaits = new boolean[MAPS];
    private final long[] inBytes = new long[MAPS];
    private final boolean[] inAwaited = new boolean[MAPS];
    private final int[] inAt = new int[MAPS];
    private final boolean[] outSent = new boolean[MAPS];
    private final long[] outBytes = new long[MAPS];
    private final int[] outAt = new int[MAPS];
    private final int[] outSyncs = new int[MAPS];
    private int syncAt;

    ProcessData(Bus bus, Data data, Access access, Alarms alarms) {
      this.bus = bus;
      this.data = data;
      this.access = access;
      this.alarms = alarms;
    }

    /** Whether IN k is not OFF; what is told to begin anew of it does. */
    private boolean isInOn(int k) {
      if ((data.values[IN + k * IN_ROWS + 1] & OFF_BIT) != 0) {
        return false;
      }
      int bit = ANEW_IN << k;
      if ((data.anew & bit) != 0) {
        data.anew &= ~bit;
        inWaits[k] = false;
        inAwaited[k] = false;
        inBits[k] = readMap(IN_MAP + k * MAP_ROWS, inSlots, inWidths, 4 * k);
      }
      return true;
    }

    /** Whether OUT k is not OFF and has a map; what is told to begin anew of it does. */
    private boolean isOutOn(int k) {
      if ((data.values[OUT + k * OUT_ROWS + 1] & OFF_BIT) != 0) {
        return false;
      }
      int bit = ANEW_OUT << k;
      if ((data.anew & bit) != 0) {
        data.anew &= ~bit;
        outSent[k] = false;
        outSyncs[k] = 0;
        outBits[k] = readMap(OUT_MAP + k * MAP_ROWS, outSlots, outWidths, 4 * k);
      }
      return outBits[k] > 0;
    }

    private int readMap(int map, int[] slots, int[] widths, int at) {
      int bits = 0;
      long n = data.values[map];
      for (int i = 0; i < 4; i++) {
        long v = i < n ? data.values[map + 1 + i] : 0;
        slots[at + i] = slotOf((int) (v >>> 16), (int) (v >>> 8) & 255);
        widths[at + i] = (int) v & 255;
        bits += widths[at + i];
      }
      return bits;
    }

    /** Part B of the work. */
    void produce() {
      long id = data.values[SYNC_ID];
      long cycle = data.values[SYNC_CYCLE];
      if ((id & PRODUCER) == 0 || cycle == 0 || data.network == STOPPED) {
        return;
      }
      if ((data.anew & ANEW_SYNC) != 0 || bus.clock - syncAt >= cycle) {
        data.anew &= ~ANEW_SYNC;
        syncAt = bus.clock;
        alarms.say(headOf((int) (id & ID_BITS), 0), 0);
        sync();
      }
    }

    void sync() {
      if (data.network != OPERATIONAL) {
        return;
      }
      for (int k = 0; k < MAPS; k++) {
        if (isInOn(k) && inWaits[k] && data.values[IN + k * IN_ROWS + 2] < AT_ONCE) {
          inWaits[k] = false;
          take(k, inBytes[k]);
        }
      }
      for (int k = 0; k < MAPS; k++) {
        long kind = data.values[OUT + k * OUT_ROWS + 2];
        if (kind < AT_ONCE && isOutOn(k)) {
          outSyncs[k]++;
          long bytes = gather(k);
          if (kind == 0 ? !outSent[k] || bytes != outBytes[k] : outSyncs[k] >= kind) {
            outSyncs[k] = 0;
            release(k, bytes);
          }
        }
      }
    }

    /** A frame that comes in state OPERATIONAL. */
    void hear(int head, long bytes) {
      long id = head >>> 5;
      boolean remote = (head & REMOTE) != 0;
      int length = head & 15;
      for (int k = 0; k < MAPS; k++) {
        if (!remote && isId(id, IN + k * IN_ROWS + 1) && isInOn(k) && 8 * length >= inBits[k]) {
          inAwaited[k] = true;
          inAt[k] = bus.clock;
          if (data.values[IN + k * IN_ROWS + 2] >= AT_ONCE) {
            take(k, bytes);
          } else {
            inWaits[k] = true;
            inBytes[k] = bytes;
          }
        }
      }
      for (int k = 0; k < MAPS; k++) {
        if (remote && isId(id, OUT + k * OUT_ROWS + 1) && isOutOn(k)) {
          release(k, gather(k));
        }
      }
    }

    private boolean isId(long id, int slot) {
      return (data.values[slot] & ID_BITS) == id;
    }

    private void take(int k, long bytes) {
      int from = 0;
      for (int i = 4 * k; i < 4 * k + 4 && from < 64; i++) {
        int slot = inSlots[i];
        if (slot >= 0 && inWidths[i] > 0) {
          access.writeNumber(slot, typed(kindOf(slot) & TYPE_BITS, bytes >>> from));
        }
        from += inWidths[i];
      }
    }

    private long gather(int k) {
      long bytes = 0;
      int to = 0;
      for (int i = 4 * k; i < 4 * k + 4 && to < 64; i++) {
        if (outWidths[i] > 0) {
          bytes |= (access.number(outSlots[i]) & (1L << outWidths[i]) - 1) << to;
          to += outWidths[i];
        }
      }
      return bytes;
    }

    private void release(int k, long bytes) {
      outSent[k] = true;
      outBytes[k] = bytes;
      outAt[k] = bus.clock;
      int id = (int) (data.values[OUT + k * OUT_ROWS + 1] & ID_BITS);
      alarms.say(headOf(id, outBits[k] / 8), bytes);
    }

    /** The end of part C of the work. */
    void missData() {
      if (data.network != OPERATIONAL) {
        return;
      }
      for (int k = 0; k < MAPS; k++) {
        if (isInOn(k) && inAwaited[k]) {
          long most = data.values[IN + k * IN_ROWS + 3];
          if (most > 0 && bus.clock - inAt[k] > most) {
            inAwaited[k] = false;
            alarms.raise(MISSED);
          }
        }
      }
    }

    /** Part J of the work. */
    void goOut() {
      if (data.network != OPERATIONAL) {
        return;
      }
      for (int k = 0; k < MAPS; k++) {
        int com = OUT + k * OUT_ROWS;
        if (data.values[com + 2] >= AT_ONCE && isOutOn(k)) {
          int since = bus.clock - outAt[k];
          long most = data.values[com + 4];
          if (outSent[k] && since < data.values[com + 3]) {
            continue;
          }
          long bytes = gather(k);
          if (!outSent[k] || bytes != outBytes[k] || most > 0 && since >= most) {
            release(k, bytes);
          }
        }
      }
    }
  }

  /** The two banks of a drive, what is saved to them, and what they give back. */
  private static final class Keeper {
    private static final int BODY = 8;
    private static final int CHUNK = 16;

    private final Bus bus;
    private final Data data;
    final int[][] banks = new int[2][BANK_ROOM];
    private final int[] image = new int[BANK_ROOM];
    private int size;
    private int written;
    private int target;
    private int beganAt;

    Keeper(Bus bus, Data data) {
      this.bus = bus;
      this.data = data;
      Arrays.fill(banks[0], 255);
      Arrays.fill(banks[1], 255);
    }

    int left() {
      return data.saving ? size - written : 0;
    }

    int bankThatCounts() {
      boolean first = counts(banks[0]);
      boolean second = counts(banks[1]);
      if (first && second) {
        return numberOf(banks[1]) > numberOf(banks[0]) ? 1 : 0;
      }
      return first ? 0 : second ? 1 : NONE;
    }

    private static long numberOf(int[] bank) {
      return bank[2] + 256L * bank[3] + 65536L * bank[4] + 16777216L * bank[5];
    }

    private static boolean counts(int[] bank) {
      if (bank[0] != 0xA5 || bank[1] != 0x5A) {
        return false;
      }
      int length = bank[6] + 256 * bank[7];
      if (length < 11 || length > BANK_ROOM) {
        return false;
      }
      int end = length - 2;
      int at = BODY;
      for (int slot = 0; slot < SLOTS; slot++) {
        if ((kindOf(slot) & S) != 0) {
          if (at >= end || lengthCode(slot, bank[at]) != 0) {
            return false;
          }
          at += 1 + bank[at];
        }
      }
      return at == end && sumOf(bank, end) == bank[end] + 256 * bank[end + 1];
    }

    /** A drive that boots takes what THE BANK THAT COUNTS has kept. */
    void load(boolean whole) {
      if (whole && data.wanted) {
        data.wanted = false;
        return;
      }
      int number = bankThatCounts();
      if (number == NONE) {
        return;
      }
      int[] bank = banks[number];
      int at = BODY;
      for (int slot = 0; slot < SLOTS; slot++) {
        if ((kindOf(slot) & S) != 0 && at < BANK_ROOM) {
          int n = bank[at];
          if (whole || BOOK[slot * COLUMNS] < INDEX_2000) {
            takeEntry(slot, bank, at + 1, n);
          }
          at += 1 + n;
        }
      }
      mendMaps(IN_MAP);
      mendMaps(OUT_MAP);
    }

    private void takeEntry(int slot, int[] bank, int at, int n) {
      int type = kindOf(slot) & TYPE_BITS;
      if (type >= TEXT) {
        if (type != PROGRAM || n % STEP_BYTES == 0) {
          data.keepRow(slot, bank, at, n);
        }
        return;
      }
      long bits = 0;
      for (int i = 0; i < n && at + i < BANK_ROOM; i++) {
        bits |= (long) bank[at + i] << 8 * i;
      }
      long v = typed(type, bits);
      if (formCode(slot, v) == 0) {
        data.values[slot] = v;
      }
    }

    private void mendMaps(int first) {
      for (int k = 0; k < MAPS; k++) {
        int map = first + k * MAP_ROWS;
        if (Access.mapCode(data, map, data.values[map]) != 0) {
          for (int i = 0; i < MAP_ROWS; i++) {
            data.resetEntry(map + i);
          }
        }
      }
    }

    /** 0x1010 was written: a SAVE begins. */
    void begin() {
      data.saveAsked = false;
      data.saving = true;
      data.savedSinceWanted = true;
      int number = bankThatCounts();
      target = number == 0 ? 1 : 0;
      beganAt = bus.clock;
      written = 0;
      makeImage(number == NONE ? 1 : numberOf(banks[number]) + 1);
    }

    private void makeImage(long number) {
      image[0] = 0xA5;
      image[1] = 0x5A;
      for (int i = 0; i < 4; i++) {
        image[2 + i] = byteOf(number, i);
      }
      size = BODY;
      for (int slot = 0; slot < SLOTS; slot++) {
        if ((kindOf(slot) & S) != 0) {
          addEntry(slot);
        }
      }
      image[6] = byteOf(size + 2, 0);
      image[7] = byteOf(size + 2, 1);
      int sum = sumOf(image, size);
      addByte(byteOf(sum, 0));
      addByte(byteOf(sum, 1));
    }

    private void addEntry(int slot) {
      boolean isNumber = isNumber(slot);
      int n = isNumber ? widthOf(slot) : data.rowSize(slot);
      addByte(n);
      for (int i = 0; i < n; i++) {
        addByte(isNumber ? byteOf(data.values[slot], i) : data.rowByte(slot, i));
      }
    }

    private void addByte(int b) {
      if (size < BANK_ROOM) {
        image[size] = b;
        size++;
      }
    }

    /** Part H of the work. */
    void goOn() {
      if (!data.saving || bus.clock == beganAt) {
        return;
      }
      int n = Math.min(CHUNK, size - written);
      System.arraycopy(image, written, banks[target], written, n);
      written += n;
      if (written >= size) {
        data.saving = false;
        if (data.savedSinceWanted) {
          data.wanted = false;
        }
      }
    }
  }

  /** A drive: its frames, its network state, its heartbeats, and the order of its work. */
  private static final class Drive {
    private static final int BOOT_WHOLE = 129;
    private static final int BOOT_BUS = 130;

    private final Bus bus;
    private final int number;
    final Data data;
    final Alarms alarms;
    final Axis axis;
    final Access access;
    final Transfer transfer;
    private final ProcessData process;
    final Keeper keeper;
    private int bootAsked;
    private int heartbeatAt;
    private final boolean[] awaited = new boolean[2];
    private final int[] awaitedAt = new int[2];
    private int guardTurn;

    Drive(Bus bus, int number) {
      this.bus = bus;
      this.number = number;
      data = new Data(number + 1);
      alarms = new Alarms(bus, data);
      Modes modes = new Modes(data, alarms);
      axis = new Axis(data, alarms, modes);
      access = new Access(data, modes);
      transfer = new Transfer(bus, data, access, alarms);
      process = new ProcessData(bus, data, access, alarms);
      keeper = new Keeper(bus, data);
    }

    /** All of it, or with order 130 but what belongs to the bus. */
    void boot(boolean whole) {
      bus.quiet(number);
      transfer.open = Transfer.CLOSED;
      data.resetEntries(whole);
      if (whole) {
        data.saving = false;
        axis.rest();
      }
      alarms.forget(whole);
      keeper.load(whole);
      data.anew |= whole ? ANEW_BUS | ANEW_TRACE : ANEW_BUS;
      guardTurn = 0;
      data.network = PRE;
      alarms.say(headOf(0x700 + data.address, 1), 0);
    }

    /** Power is lost. */
    void fade() {
      bus.quiet(number);
      data.saving = false;
      axis.rest();
    }

    void work() {
      int[] heads = bus.inHeads[number];
      long[] rows = bus.inBytes[number];
      for (int i = 0; i < bus.inSize[number] && i < IN_ROOM; i++) {
        takeFrame(heads[i], rows[i]);
        if (bootAsked != 0) {
          boolean whole = bootAsked == BOOT_WHOLE;
          bootAsked = 0;
          boot(whole);
        }
      }
      bus.inSize[number] = 0;
      process.produce();
      beat();
      missHeartbeats();
      process.missData();
      transfer.losePatience();
      axis.turn();
      axis.move();
      axis.follow();
      keeper.goOn();
      alarms.settle();
      process.goOut();
    }

    private void takeFrame(int head, long bytes) {
      int id = head >>> 5;
      boolean remote = (head & REMOTE) != 0;
      int length = head & 15;
      if (id == 0 && !remote && length == 2) {
        obey(byteOf(bytes, 0), byteOf(bytes, 1));
      }
      if (remote && id == 0x700 + data.address) {
        alarms.say(headOf(id, 1), data.network + guardTurn);
        guardTurn ^= 128;
      }
      if (!remote && length == 1 && id > 0x700) {
        takeHeartbeat(id - 0x700);
      }
      if (!remote && length == 8 && id == 0x600 + data.address && data.network != STOPPED) {
        transfer.request(bytes);
        if (data.saveAsked) {
          keeper.begin();
        }
      }
      if (!remote && id == (data.values[SYNC_ID] & ID_BITS)) {
        process.sync();
      }
      if (data.network == OPERATIONAL) {
        process.hear(head, bytes);
      }
    }

    private void obey(int order, int address) {
      if (address != 0 && address != data.address) {
        return;
      }
      switch (order) {
        case 1:
          data.enter(OPERATIONAL);
          break;
        case 2:
          stop();
          break;
        case 128:
          data.enter(PRE);
          break;
        case BOOT_WHOLE:
        case BOOT_BUS:
          bootAsked = order;
          break;
        default:
          break;
      }
    }

    private void stop() {
      data.enter(STOPPED);
      transfer.open = Transfer.CLOSED;
    }

    /** The beginning of part C of the work. */
    private void beat() {
      long every = data.values[HEARTBEAT];
      if (every > 0 && ((data.anew & ANEW_HEARTBEAT) != 0 || bus.clock - heartbeatAt >= every)) {
        data.anew &= ~ANEW_HEARTBEAT;
        heartbeatAt = bus.clock;
        alarms.say(headOf(0x700 + data.address, 1), data.network);
      }
    }

    /** Whether sub i + 1 of 0x1016 awaits; what is told to begin anew of it does. */
    private boolean awaits(int i) {
      int bit = ANEW_AWAITED << i;
      if ((data.anew & bit) != 0) {
        data.anew &= ~bit;
        awaited[i] = false;
      }
      long v = data.values[AWAITED + i];
      return v >>> 16 > 0 && (v & 0xFFFF) > 0;
    }

    private void takeHeartbeat(int address) {
      for (int i = 0; i < 2; i++) {
        if (awaits(i) && data.values[AWAITED + i] >>> 16 == address) {
          awaited[i] = true;
          awaitedAt[i] = bus.clock;
        }
      }
    }

    private void missHeartbeats() {
      for (int i = 0; i < 2; i++) {
        if (awaits(i) && awaited[i]
            && bus.clock - awaitedAt[i] > (data.values[AWAITED + i] & 0xFFFF)) {
          awaited[i] = false;
          alarms.raise(MISSED);
          long action = data.values[LOSS_ACTION];
          if (action == 2) {
            stop();
          } else if (action == 0 && data.network == OPERATIONAL) {
            data.enter(PRE);
          }
        }
      }
    }
  }

  /** The master's BUFFER and its JOB. */
  private static final class Job {
    static final int RUNS = 1;
    private static final int WELL = 2;
    private static final int ABORTED = 3;
    private static final int PATIENCE = 300;
    private static final int BLOCK = 8;

    private static final int DOWN_WHOLE = 0;
    private static final int DOWN_OPEN = 1;
    private static final int DOWN_SEGMENT = 2;
    private static final int UP_OPEN = 3;
    private static final int UP_SEGMENT = 4;
    private static final int DOWN_BLOCKS_OPEN = 5;
    private static final int DOWN_BLOCK = 6;
    private static final int DOWN_BLOCKS_END = 7;
    private static final int UP_BLOCKS_OPEN = 8;
    private static final int UP_BLOCK = 9;
    private static final int UP_BLOCKS_END = 10;

    private final Bus bus;
    int status;
    int code;
    int requests;
    final int[] bytes = new int[BUFFER_ROOM];
    int size;
    int drive;
    private long where;
    private int phase;
    private int turn;
    // Bytes sent so far in segments; of blocks the pieces that came for sure, those sent in
    // this block, and the last number that counted.
    private int gone;
    private int pieces;
    private int sent;
    private int last;
    private int latest;

    Job(Bus bus) {
      this.bus = bus;
    }

    void begin(int drive, int where, boolean up, boolean blocks) {
      status = RUNS;
      code = 0;
      requests = 0;
      this.drive = drive;
      this.where = where;
      turn = 0;
      gone = 0;
      pieces = 0;
      last = 0;
      if (up) {
        phase = blocks ? UP_BLOCKS_OPEN : UP_OPEN;
        request(blocks ? 0xA4 | named() | high(BLOCK) : 0x40 | named());
      } else if (blocks) {
        phase = DOWN_BLOCKS_OPEN;
        request(0xC6 | named() | high(size));
      } else if (size >= 1 && size <= 4) {
        phase = DOWN_WHOLE;
        request(0x23 + 4 * (4 - size) | named() | sevenBytes(bytes, 0, size) << 24);
      } else {
        phase = DOWN_OPEN;
        request(0x21 | named() | high(size));
      }
    }

    private long named() {
      return where << 8;
    }

    private void request(long b) {
      requests++;
      latest = bus.clock;
      bus.send(MASTER, headOf(0x601 + drive, 8), b);
    }

    private void abort(int why) {
      status = ABORTED;
      code = why;
      request(0x80 | named() | high(why));
    }

    void losePatience() {
      if (status == RUNS && bus.clock - latest > PATIENCE) {
        abort(TIMED_OUT);
      }
    }

    void answer(long b) {
      latest = bus.clock;
      int c = byteOf(b, 0);
      if (c == 0x80) {
        status = ABORTED;
        code = (int) (b >>> 32);
        return;
      }
      boolean isNamed = (b >>> 8 & 0xFFFFFF) == where;
      int why;
      switch (phase) {
        case DOWN_WHOLE:
          why = c == 0x60 && isNamed ? end() : BAD_COMMAND;
          break;
        case DOWN_OPEN:
          why = c == 0x60 && isNamed ? sendSegment() : BAD_COMMAND;
          break;
        case DOWN_SEGMENT:
          why = goOnDown(c);
          break;
        case UP_OPEN:
          why = isNamed ? openUp(b, c) : BAD_COMMAND;
          break;
        case UP_SEGMENT:
          why = takeSegment(b, c);
          break;
        case DOWN_BLOCKS_OPEN:
          why = c == 0xA4 && isNamed ? sendBlock(byteOf(b, 4)) : BAD_COMMAND;
          break;
        case DOWN_BLOCK:
          why = c == 0xA2 ? goOnDownBlocks(b) : BAD_COMMAND;
          break;
        case DOWN_BLOCKS_END:
          why = c == 0xA1 ? end() : BAD_COMMAND;
          break;
        case UP_BLOCKS_OPEN:
          why = c == 0xC6 && isNamed ? openUpBlocks() : BAD_COMMAND;
          break;
        case UP_BLOCK:
          why = takePiece(b, c);
          break;
        default:
          why = endUpBlocks(b, c);
          break;
      }
      if (why != 0) {
        abort(why);
      }
    }

    private int end() {
      status = WELL;
      return 0;
    }

    private int sendSegment() {
      phase = DOWN_SEGMENT;
      int n = Math.min(7, size - gone);
      long seven = sevenBytes(bytes, gone, size);
      gone += n;
      request(turn << 4 | 2 * (7 - n) | (gone >= size ? 1 : 0) | seven);
      return 0;
    }

    private int goOnDown(int c) {
      int must = 0x20 | turn << 4;
      if (c != must) {
        return c == (must ^ 0x10) ? BAD_TURN : BAD_COMMAND;
      }
      if (gone >= size) {
        return end();
      }
      turn ^= 1;
      return sendSegment();
    }

    private int openUp(long b, int c) {
      if (c == 0x41) {
        size = 0;
        phase = UP_SEGMENT;
        request(0x60);
        return 0;
      }
      if (c < 0x43 || c > 0x4F || (c & 3) != 3) {
        return BAD_COMMAND;
      }
      size = 4 - (c - 0x43) / 4;
      for (int i = 0; i < size; i++) {
        bytes[i] = byteOf(b, 4 + i);
      }
      return end();
    }

    private int takeSegment(long b, int c) {
      if (c >= 0x20) {
        return BAD_COMMAND;
      }
      if (c >>> 4 != turn) {
        return BAD_TURN;
      }
      if (!takeBytes(b, 7 - (c >>> 1 & 7))) {
        return NO_ROOM;
      }
      if ((c & 1) != 0) {
        return end();
      }
      turn ^= 1;
      request(0x60 | turn << 4);
      return 0;
    }

    private boolean takeBytes(long b, int n) {
      if (size + n > BUFFER_ROOM) {
        return false;
      }
      for (int i = 0; i < n; i++) {
        bytes[size + i] = byteOf(b, 1 + i);
      }
      size += n;
      return true;
    }

    private int sendBlock(int most) {
      if (most < 1 || most > 127) {
        return BAD_BLOCK_SIZE;
      }
      phase = DOWN_BLOCK;
      int left = piecesOf(size) - pieces;
      sent = Math.min(most, left);
      for (int i = 1; i <= sent; i++) {
        int c = i == left ? i | 0x80 : i;
        request(c | sevenBytes(bytes, (pieces + i - 1) * 7, size));
      }
      return 0;
    }

    private int goOnDownBlocks(long b) {
      int came = byteOf(b, 1);
      int most = byteOf(b, 2);
      if (came > sent) {
        return BAD_PIECE;
      }
      if (pieces + came < piecesOf(size)) {
        pieces += came;
        return sendBlock(most);
      }
      if (most < 1 || most > 127) {
        return BAD_BLOCK_SIZE;
      }
      phase = DOWN_BLOCKS_END;
      request(0xC1 + 4 * (7 * piecesOf(size) - size) | (long) sumOf(bytes, size) << 8);
      return 0;
    }

    private int openUpBlocks() {
      size = 0;
      phase = UP_BLOCK;
      request(0xA3);
      return 0;
    }

    private int takePiece(long b, int c) {
      int number = c & 127;
      boolean counts = number == last + 1;
      if (counts) {
        if (!takeBytes(b, 7)) {
          return NO_ROOM;
        }
        last = number;
      }
      boolean isLast = counts && (c & 0x80) != 0;
      if (isLast || number == BLOCK) {
        request(0xA2 | last << 8 | BLOCK << 16);
        last = 0;
        phase = isLast ? UP_BLOCKS_END : UP_BLOCK;
      }
      return 0;
    }

    private int endUpBlocks(long b, int c) {
      if (c < 0xC1 || c > 0xDD || (c & 3) != 1) {
        return BAD_COMMAND;
      }
      size = Math.max(0, size - (c - 0xC1) / 4);
      if (sumOf(bytes, size) != ((int) (b >>> 8) & 0xFFFF)) {
        return BAD_SUM;
      }
      request(0xA1);
      return end();
    }
  }

  /** The master's work: what it HEARS, and its PLANS with their TALKS. */
  private static final class Plans {
    static final int NO_PLAN = 0;
    private static final int AWAITS = 1;
    private static final int ASKS = 2;
    static final int SETS = 3;
    private static final int WATCHES = 4;
    private static final int GAVE_UP = 5;
    private static final int PATIENCE = 300;
    private static final long SERIAL_WHERE = 0x041018L;

    private final Bus bus;
    private final Job job;
    final int[] heardStates = {NONE, NONE, NONE, NONE};
    final int[] heardCodes = {NONE, NONE, NONE, NONE};
    private final int[] heardAt = new int[DRIVES];
    final int[] stages = new int[DRIVES];
    private final int[] serials = new int[DRIVES];
    private final int[] watches = new int[DRIVES];
    final int[] tries = new int[DRIVES];
    final int[] sizes = new int[DRIVES];
    final int[] done = new int[DRIVES];
    private final int[] watchedSince = new int[DRIVES];
    private final int[] wheres = new int[DRIVES * SETTINGS_ROOM];
    private final int[] numbers = new int[DRIVES * SETTINGS_ROOM];
    private final int[] widths = new int[DRIVES * SETTINGS_ROOM];
    int talk = NONE;
    private int talkAt;

    Plans(Bus bus, Job job) {
      this.bus = bus;
      this.job = job;
    }

    void make(int drive, int serial, int watch) {
      stages[drive] = AWAITS;
      serials[drive] = serial;
      watches[drive] = watch;
      tries[drive] = 0;
      sizes[drive] = 0;
      done[drive] = 0;
      endTalk(drive);
    }

    int add(int drive, int where, int number, int bytes) {
      int at = drive * SETTINGS_ROOM + sizes[drive];
      wheres[at] = where;
      numbers[at] = number;
      widths[at] = bytes;
      sizes[drive]++;
      return sizes[drive];
    }

    private void endTalk(int drive) {
      if (talk == drive) {
        talk = NONE;
      }
    }

    void work() {
      int[] heads = bus.inHeads[MASTER];
      long[] rows = bus.inBytes[MASTER];
      for (int i = 0; i < bus.inSize[MASTER] && i < IN_ROOM; i++) {
        if ((heads[i] & REMOTE) == 0) {
          hear(heads[i] >>> 5, heads[i] & 15, rows[i]);
        }
      }
      bus.inSize[MASTER] = 0;
      job.losePatience();
      if (talk != NONE && bus.clock - talkAt > PATIENCE) {
        fail(talk);
      }
      if (talk == NONE && job.status != Job.RUNS) {
        beginTalk();
      }
      watch();
    }

    private void hear(int id, int length, long bytes) {
      int drive = (id & 0x7F) - 1;
      if (drive < 0 || drive >= DRIVES) {
        return;
      }
      int service = id - drive - 1;
      if (service == 0x700 && length == 1) {
        hearState(drive, byteOf(bytes, 0));
      } else if (service == 0x80 && length == 8) {
        heardCodes[drive] = (int) bytes & 0xFFFF;
      } else if (service == 0x580 && length == 8) {
        if (job.status == Job.RUNS && job.drive == drive) {
          job.answer(bytes);
        } else if (talk == drive) {
          hearAnswer(drive, bytes);
        }
      }
    }

    private void hearState(int drive, int b) {
      heardStates[drive] = b & 127;
      heardAt[drive] = bus.clock;
      int stage = stages[drive];
      if (b == 0 && stage != NO_PLAN && stage != GAVE_UP) {
        stages[drive] = ASKS;
        done[drive] = 0;
        endTalk(drive);
      }
    }

    private void hearAnswer(int drive, long b) {
      int at = drive * SETTINGS_ROOM + Math.min(done[drive], SETTINGS_ROOM - 1);
      talk = NONE;
      if (stages[drive] == ASKS) {
        if (b == (0x43 | SERIAL_WHERE << 8 | high(serials[drive]))) {
          stages[drive] = SETS;
        } else {
          fail(drive);
        }
      } else if ((b & U32_MASK) == (0x60 | (long) wheres[at] << 8)) {
        done[drive]++;
      } else {
        fail(drive);
      }
    }

    private void fail(int drive) {
      endTalk(drive);
      tries[drive]++;
      if (tries[drive] >= 3) {
        stages[drive] = GAVE_UP;
      } else {
        stages[drive] = AWAITS;
        order(129, drive);
      }
    }

    private void order(int what, int drive) {
      bus.send(MASTER, headOf(0, 2), what | drive + 1 << 8);
    }

    private void beginTalk() {
      for (int k = 0; k < DRIVES; k++) {
        if (stages[k] == ASKS || stages[k] == SETS) {
          talkTo(k);
          return;
        }
      }
    }

    private void talkTo(int drive) {
      if (stages[drive] == SETS && done[drive] >= sizes[drive]) {
        order(1, drive);
        stages[drive] = WATCHES;
        tries[drive] = 0;
        watchedSince[drive] = bus.clock;
        return;
      }
      talk = drive;
      talkAt = bus.clock;
      long b = 0x40 | SERIAL_WHERE << 8;
      if (stages[drive] == SETS) {
        int at = drive * SETTINGS_ROOM + Math.min(done[drive], SETTINGS_ROOM - 1);
        long number = numbers[at] & (1L << 8 * widths[at]) - 1;
        b = 0x23 + 4 * (4 - widths[at]) | (long) wheres[at] << 8 | high(number);
      }
      bus.send(MASTER, headOf(0x601 + drive, 8), b);
    }

    private void watch() {
      for (int k = 0; k < DRIVES; k++) {
        if (stages[k] == WATCHES && watches[k] > 0) {
          int since = Math.max(watchedSince[k], heardStates[k] == NONE ? 0 : heardAt[k]);
          if (bus.clock - since > watches[k]) {
            fail(k);
          }
        }
      }
    }
  }
}
