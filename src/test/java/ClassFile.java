import java.io.DataInputStream;
import java.io.IOException;
import java.io.InputStream;
import java.util.Map;
import java.util.Set;
import java.util.TreeMap;
import java.util.TreeSet;

/** What a class file tells of its methods: whom they call, and whether they make objects or arrays. */
final class ClassFile {
  /** For each method, as Class.name, all that it calls, told so too. */
  final Map<String, Set<String>> calls = new TreeMap<>();
  /** The methods that make an object or an array. */
  final Set<String> makers = new TreeSet<>();
  /** The constant pool has something of lambdas, joined texts and their like. */
  boolean dynamic = false;

  private int[] one;
  private int[] two;
  private String[] text;

  ClassFile(String name) throws IOException {
    try (InputStream raw = ClassFile.class.getResourceAsStream(name + ".class");
        DataInputStream in = new DataInputStream(raw)) {
      in.skipNBytes(8);
      readPool(in);
      in.skipNBytes(6);
      in.skipNBytes(2L * in.readUnsignedShort());
      for (int fields = in.readUnsignedShort(); fields > 0; fields--) {
        in.skipNBytes(6);
        skipAttributes(in);
      }
      for (int methods = in.readUnsignedShort(); methods > 0; methods--) {
        in.skipNBytes(2);
        readMethod(in, name + "." + text[in.readUnsignedShort()]);
      }
    }
  }

  private void readPool(DataInputStream in) throws IOException {
    int size = in.readUnsignedShort();
    one = new int[size];
    two = new int[size];
    text = new String[size];
    for (int i = 1; i < size; i++) {
      int tag = in.readUnsignedByte();
      dynamic |= tag == 15 || tag == 17 || tag == 18;
      switch (tag) {
        case 1 -> text[i] = in.readUTF();
        case 3, 4 -> in.readInt();
        case 5, 6 -> {
          in.readLong();
          i++;
        }
        case 7, 8, 16, 19, 20 -> one[i] = in.readUnsignedShort();
        case 15 -> in.skipNBytes(3);
        default -> {
          one[i] = in.readUnsignedShort();
          two[i] = in.readUnsignedShort();
        }
      }
    }
  }

  private void skipAttributes(DataInputStream in) throws IOException {
    for (int attributes = in.readUnsignedShort(); attributes > 0; attributes--) {
      in.skipNBytes(2);
      in.skipNBytes(in.readInt());
    }
  }

  private void readMethod(DataInputStream in, String method) throws IOException {
    in.skipNBytes(2);
    calls.putIfAbsent(method, new TreeSet<>());
    for (int attributes = in.readUnsignedShort(); attributes > 0; attributes--) {
      String attribute = text[in.readUnsignedShort()];
      byte[] bytes = new byte[in.readInt()];
      in.readFully(bytes);
      if (attribute.equals("Code")) {
        readCode(bytes, method);
      }
    }
  }

  private static int at(byte[] bytes, int i, int size) {
    int v = 0;
    for (int k = 0; k < size; k++) {
      v = v << 8 | bytes[i + k] & 255;
    }
    return v;
  }

  private void readCode(byte[] bytes, String method) {
    int end = 8 + at(bytes, 4, 4);
    for (int i = 8; i < end; i += length(bytes, i)) {
      int op = bytes[i] & 255;
      if (op >= 182 && op <= 186) {
        int pool = at(bytes, i + 1, 2);
        String of = op == 186 ? "dynamic" : text[one[one[pool]]];
        calls.get(method).add(of + "." + text[one[two[pool]]]);
      }
      if (op == 187 || op == 188 || op == 189 || op == 197) {
        makers.add(method);
      }
    }
  }

  /** How long the instruction at i is; the code begins at 8, by which switches are padded, too. */
  private static int length(byte[] bytes, int i) {
    int op = bytes[i] & 255;
    int padded = i + 4 - i % 4;
    if (op == 170) {
      return padded - i + 12 + 4 * (at(bytes, padded + 8, 4) - at(bytes, padded + 4, 4) + 1);
    }
    if (op == 171) {
      return padded - i + 8 + 8 * at(bytes, padded + 4, 4);
    }
    if (op == 196) {
      return (bytes[i + 1] & 255) == 132 ? 6 : 4;
    }
    if (op == 16 || op == 18 || op >= 21 && op <= 25 || op >= 54 && op <= 58 || op == 169 || op == 188) {
      return 2;
    }
    boolean three =
        op == 17 || op == 19 || op == 20 || op == 132 || op >= 153 && op <= 168
            || op >= 178 && op <= 184 || op == 187 || op == 189 || op == 192 || op == 193
            || op == 198 || op == 199;
    if (three) {
      return 3;
    }
    return op == 197 ? 4 : op == 185 || op == 186 || op == 200 || op == 201 ? 5 : 1;
  }
}
