import java.lang.reflect.Constructor;
import java.lang.reflect.Method;
import java.lang.reflect.Modifier;
import java.util.ArrayList;
import java.util.Collections;
import java.util.List;

/** The public face: its members, what they declare to throw, and promise 1. */
public final class FaceTest {
  private static final String[] FACE = {
    "boolean power(int, boolean) IndexOutOfBoundsException",
    "int bank(int, int, int) IndexOutOfBoundsException",
    "int buffer(int)",
    "int clear() IllegalStateException",
    "int count(int) IndexOutOfBoundsException",
    "int disturb(int, int) IndexOutOfBoundsException IllegalArgumentException",
    "int frame(int, boolean, int, long) IllegalArgumentException",
    "int hand(int, int, boolean) IndexOutOfBoundsException IllegalArgumentException",
    "int heard(int, int) IndexOutOfBoundsException",
    "int inputs(int, int) IndexOutOfBoundsException IllegalArgumentException",
    "int octet(int, int, int, int) IndexOutOfBoundsException IllegalArgumentException IllegalStateException",
    "int planned(int, int) IndexOutOfBoundsException",
    "int put(int) IllegalArgumentException IllegalStateException",
    "int scratch(int, int, int, int) IndexOutOfBoundsException IllegalArgumentException",
    "int setting(int, int, int, int, int) IndexOutOfBoundsException IllegalArgumentException IllegalStateException",
    "int state(int, int) IndexOutOfBoundsException",
    "int station(int, int) IndexOutOfBoundsException",
    "int tick(int) IllegalArgumentException",
    "int told(int) IndexOutOfBoundsException",
    "long entry(int, int, int) IndexOutOfBoundsException IllegalArgumentException IllegalStateException",
    "long logged(int, int) IndexOutOfBoundsException",
    "long place(int, int) IndexOutOfBoundsException",
    "void job(int, int, int, boolean, boolean) IndexOutOfBoundsException IllegalArgumentException IllegalStateException",
    "void plan(int, int, int) IndexOutOfBoundsException IllegalArgumentException",
  };

  public static void main(String[] args) {
    theMembers();
    aNewObject();
    theRateIsBounded();
    Rig.end();
  }

  private static void theMembers() {
    List<String> found = new ArrayList<>();
    for (Method m : ServoNet.class.getDeclaredMethods()) {
      if (!Modifier.isPrivate(m.getModifiers())) {
        found.add(told(m));
      }
    }
    Collections.sort(found);
    Rig.same("how many methods there are", found.size(), FACE.length);
    for (int i = 0; i < Math.min(found.size(), FACE.length); i++) {
      if (!found.get(i).equals(FACE[i])) {
        System.out.println("found " + found.get(i) + ", due is " + FACE[i]);
      }
      Rig.isTrue("a method of the face", found.get(i).equals(FACE[i]));
    }
    Constructor<?>[] made = ServoNet.class.getDeclaredConstructors();
    Rig.same("constructors", made.length, 1);
    Rig.isTrue("the class is final", Modifier.isFinal(ServoNet.class.getModifiers()));
    Rig.same("NONE", ServoNet.NONE, -1);
  }

  private static String told(Method m) {
    StringBuilder text = new StringBuilder();
    text.append(m.getReturnType().getSimpleName()).append(' ').append(m.getName()).append('(');
    for (int i = 0; i < m.getParameterCount(); i++) {
      text.append(i == 0 ? "" : ", ").append(m.getParameterTypes()[i].getSimpleName());
    }
    text.append(')');
    for (Class<?> e : m.getExceptionTypes()) {
      text.append(' ').append(e.getSimpleName());
    }
    return text.toString();
  }

  private static void aNewObject() {
    ServoNet net = new ServoNet(3);
    for (int what = 0; what < 4; what++) {
      Rig.same("count " + what, net.count(what), 0);
      Rig.same("told " + what, net.told(what), 0);
    }
    for (int k = 0; k < 4; k++) {
      for (int what = 0; what < 9; what++) {
        Rig.same("state " + what, net.state(k, what), what == 6 ? -1 : 0);
      }
      for (int what = 0; what < 4; what++) {
        Rig.same("place " + what, net.place(k, what), 0);
      }
      for (int what = 0; what < 5; what++) {
        Rig.same("planned " + what, net.planned(k, what), 0);
      }
      Rig.same("heard a state", net.heard(k, 0), -1);
      Rig.same("heard a code", net.heard(k, 1), -1);
      Rig.same("inputs", net.inputs(k, 0), 0);
      Rig.same("a bank's first byte", net.bank(k, 0, 0), 255);
      Rig.same("a bank's last byte", net.bank(k, 1, 1023), 255);
    }
    for (int s = 0; s < 5; s++) {
      for (int what = 0; what < 5; what++) {
        Rig.same("station " + what, net.station(s, what), 0);
      }
    }
    Rig.same("an empty buffer", net.buffer(0), -1);
    Rig.same("an empty buffer's size", net.clear(), 0);
    Rig.same("it is not held", net.hand(2, 0, false), 0);
  }

  /** RATE frames pass in a tick, 1 to 8 of them, whatever was told. */
  private static void theRateIsBounded() {
    int[][] rates = {{-5, 1}, {0, 1}, {1, 1}, {3, 3}, {8, 8}, {9, 8}, {Integer.MAX_VALUE, 8}, {Integer.MIN_VALUE, 1}};
    for (int[] rate : rates) {
      ServoNet net = new ServoNet(rate[0]);
      for (int i = 0; i < 12; i++) {
        net.frame(5, false, 0, 0);
      }
      net.tick(1);
      Rig.same("frames in a tick with rate " + rate[0], net.count(1), rate[1]);
    }
  }
}
