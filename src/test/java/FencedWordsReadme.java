import java.nio.file.Files;
import java.nio.file.Path;
import java.util.ArrayList;
import java.util.List;

/** The example of README.md: each call is done as it is written there, and answers what its comment says first. */
public final class FencedWordsReadme {
  private static int wrong = 0;

  public static void main(String[] args) throws Exception {
    List<String> lines = example(Files.readAllLines(Path.of("README.md")));
    FencedWords x = new FencedWords();
    int calls = 0;
    for (String line : lines) {
      if (line.startsWith("x.")) {
        calls++;
        compare(x, line);
      }
    }
    if (calls == 0) {
      tell("README.md has no example");
    }
    System.out.println(wrong == 0 ? calls + " calls of the example answer as written" : wrong + " answers are not as written");
    if (wrong != 0) {
      System.exit(1);
    }
  }

  private static List<String> example(List<String> lines) {
    List<String> found = new ArrayList<>();
    boolean inside = false;
    for (String line : lines) {
      if (line.startsWith("```")) {
        inside = line.equals("```java");
      } else if (inside) {
        found.add(line);
      }
    }
    return found;
  }

  private static void compare(FencedWords x, String line) {
    String call = line.substring(2, line.indexOf(';'));
    String written = line.substring(line.indexOf("//") + 2).trim().split("[,:]")[0];
    String got = answer(x, call);
    if (!got.equals(written)) {
      tell(call + " answered " + got + ", written is " + written);
    }
  }

  private static String answer(FencedWords x, String call) {
    String name = call.substring(0, call.indexOf('('));
    String inner = call.substring(call.indexOf('(') + 1, call.indexOf(')'));
    String[] values = inner.isEmpty() ? new String[0] : inner.replace("L", "").split(", ");
    int first = values.length > 0 ? Integer.parseInt(values[0]) : 0;
    long second = values.length > 1 ? Long.parseLong(values[1]) : 0;
    return switch (name) {
      case "arm" -> String.valueOf(x.arm(first, second));
      case "begin" -> String.valueOf(x.begin());
      case "snapshot" -> String.valueOf(x.snapshot(first, (int) second));
      case "store" -> String.valueOf(x.store(first, second));
      case "commit" -> String.valueOf(x.commit());
      case "abort" -> String.valueOf(x.abort());
      case "recover" -> String.valueOf(x.recover());
      case "seen" -> String.valueOf(x.seen(first));
      case "kept" -> String.valueOf(x.kept(first));
      default -> "nothing, since this test does not know it";
    };
  }

  private static void tell(String text) {
    wrong++;
    System.out.println(text);
  }
}
