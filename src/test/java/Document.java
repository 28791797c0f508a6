import java.io.IOException;
import java.nio.charset.StandardCharsets;
import java.nio.file.Files;
import java.nio.file.Path;
import java.util.BitSet;
import java.util.Map;
import java.util.TreeMap;
import java.util.regex.Matcher;
import java.util.regex.Pattern;

/**
 * The document by its sections, and what of it the edge tests have quoted: a sentence that is not there
 * is a test's fault, a number that no test has quoted is an edge that was forgotten.
 */
final class Document {
  private static final Path PLACE = Path.of("../shared/DOC.md");
  private static final Pattern NUMBER = Pattern.compile("-?\\d+");

  private final Map<String, String> texts = new TreeMap<>();
  private final Map<String, BitSet> quoted = new TreeMap<>();

  Document() {
    try {
      for (String part : Files.readString(PLACE, StandardCharsets.UTF_8).split("\n## ")) {
        int end = part.indexOf('\n');
        String title = part.substring(0, Math.max(end, 0)).replaceAll(":.*", "");
        String text = part.substring(Math.max(end, 0)).replaceAll("\\s+", " ").trim();
        // Of a promise, what stands behind its signature; not what groups the calls of the face.
        text = text.replaceAll("^`[^`]*`: ", "").replaceAll("Ahead of the calls [^:]*: ---- ", "");
        if (title.equals("Terms")) {
          int two = Math.max(0, text.indexOf("==== II."));
          add("Terms I", text.substring(0, two));
          add("Terms II", text.substring(two));
        } else {
          add(title, text);
        }
      }
    } catch (IOException e) {
      System.out.println("no document at " + PLACE + ": its words are not compared");
    }
  }

  private void add(String title, String text) {
    texts.put(title, text);
    quoted.put(title, new BitSet());
  }

  /** Whether these words stand in the section, word by word. */
  boolean quotes(String section, String words) {
    String text = texts.get(section);
    if (text == null) {
      return texts.isEmpty();
    }
    boolean found = false;
    for (int at = text.indexOf(words); at >= 0; at = text.indexOf(words, at + 1)) {
      // A number is quoted whole or not at all: -1 is not the begin of -11.
      int end = at + words.length();
      boolean cut = end < text.length() && Character.isDigit(text.charAt(end))
          && Character.isDigit(text.charAt(end - 1));
      if (!cut) {
        quoted.get(section).set(at, end);
        found = true;
        break;
      }
    }
    return found;
  }

  /** The first number of the section that no test has quoted, with some words around it; "" if none. */
  String forgotten(String section) {
    String text = texts.getOrDefault(section, "");
    Matcher m = NUMBER.matcher(text);
    while (m.find()) {
      if (quoted.get(section).nextClearBit(m.start()) < m.end()) {
        int from = Math.max(0, m.start() - 30);
        return text.substring(from, Math.min(text.length(), m.end() + 30));
      }
    }
    return "";
  }
}
