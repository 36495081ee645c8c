import java.io.IOException;
import java.lang.reflect.Method;
import java.nio.file.Files;
import java.nio.file.Path;
import java.util.ArrayList;
import java.util.HashMap;
import java.util.List;
import java.util.Map;
import java.util.TreeSet;
import java.util.regex.Matcher;
import java.util.regex.Pattern;

/** The example of README.md: its calls, made here, with the answers that it tells; and README.md shows just these. */
public final class ReadmeTests extends DocumentTest {
  private static final String FIRST_LINE = "MemberChoice x = new MemberChoice();";
  private static final Pattern CALL = Pattern.compile("(?:int (\\w+) = )?x\\.(\\w+)\\((.*)\\); +// (-?\\d+)( .*|:.*)?");
  private static final Pattern CONSTANT = Pattern.compile("int (\\w+) = (MemberChoice\\.\\w+); +// (-?\\d+)");

  /** A call, and the answer that is told of it. */
  private record Row(int answer, Call call) {
    @Override
    public String toString() { return call + " " + answer; }
  }

  private static final Row[] EXAMPLE = {
    row(16, "cls", 8), row(17, "cls", 16), row(18, "face"), row(19, "face"), row(1, "below", 17, 18),
    row(BAD, "below", 17, 16), row(1, "is", 17, 16), row(0, "is", 1, 9), row(1, "fits", 1, 9),
    row(0, "member", 16, 0, 0, NONE, 1, 2, 0, 0, 0), row(1, "member", 16, 0, 0, NONE, 1, 8, 0, 0, 0),
    row(2, "member", 17, 0, 0, NONE, 1, 2, 0, 0, 0), row(2, "seen", 17, 0, NONE), row(2, "seenAt", 17, 0, NONE, 1),
    row(3, "member", 18, 1, 4, 1, 1, 1, 0, 0, 0), row(4, "member", 19, 2, 4, 2, 1, 1, 0, 0, 0), row(4, "function", 19),
    row(5, "member", 16, 3, 1, NONE, 1, 18, 0, 0, 0), row(6, "member", 16, 3, 1, NONE, 1, 19, 0, 0, 0),
    row(1, "argument", 1), row(2, "choose", 17, 0, NONE, 0), row(1, "phase"), row(2, "applied", 0), row(NONE, "applied", 1),
    row(NONE, "special", 1, 2), row(INSTANCE, "choose", 17, 0, NONE, 1), row(UNFIT, "choose", 17, 3, NONE, 0),
    row(UNSEEN, "choose", 17, 4, NONE, 0), row(1, "wipe"), row(1, "lambda", 1, 1, 1, 0, 1),
    row(5, "choose", 17, 3, NONE, 1), row(1, "special", 5, 6), row(0, "special", 6, 5),
    row(UNMEANT, "choose", 17, 0, NONE, 0), row(1, "wipe"), row(1, "lambda", 1, 0, 0, 0, 1),
    row(AMBIGUOUS, "choose", 17, 3, NONE, 1), row(4, "count", 0), row(7, "count", 1), row(1, "count", 2)
  };

  public static void main(String[] args) throws Exception { runAll(ReadmeTests.class); }

  private static Row row(int answer, String name, int... given) { return new Row(answer, new Call(name, given)); }

  static void readmeExampleAnswersAsItTells() {
    Counted x = new Counted();
    for (Row row : EXAMPLE) due(row.answer(), x.ask(row.call()), row.call().toString());
  }

  static void readmeShowsTheseCallsAndAnswers() throws IOException, ReflectiveOperationException {
    List<Row> shown = shownRows();
    due(EXAMPLE.length, shown.size(), "calls that README.md shows");
    for (int k = 0; k < EXAMPLE.length && k < shown.size(); k++) {
      String want = EXAMPLE[k].toString(), got = shown.get(k).toString();
      due(1, want.equals(got) ? 1 : 0, "README.md shows " + got + " where " + want + " is due");
    }
  }

  static void readmeShowsEachMethodOfTheFace() {
    TreeSet<String> face = new TreeSet<>();
    for (Method m : MemberChoice.class.getDeclaredMethods()) {
      if (java.lang.reflect.Modifier.isPublic(m.getModifiers())) face.add(m.getName());
    }
    for (Row row : EXAMPLE) face.remove(row.call().name());
    due(0, face.size(), "the example does without " + face);
  }

  /** A remark may tell an answer's name in brackets: it is the name of that number. */
  static void readmeNamesTheAnswersRightly() throws IOException, ReflectiveOperationException {
    Matcher named = Pattern.compile("(-\\d+) \\((\\w+)\\)|`(\\w+)` = (-\\d+)").matcher(Files.readString(Path.of("README.md")));
    while (named.find()) {
      boolean inExample = named.group(1) != null;
      String name = named.group(inExample ? 2 : 3);
      due(Integer.parseInt(named.group(inExample ? 1 : 4)), constant(name), name);
    }
  }

  private static int constant(String name) throws ReflectiveOperationException {
    return MemberChoice.class.getField(name).getInt(null);
  }

  private static List<String> linesOfTheExample() throws IOException {
    List<String> found = new ArrayList<>();
    boolean inside = false;
    for (String line : Files.readAllLines(Path.of("README.md"))) {
      if (line.startsWith("```")) {
        inside = line.equals("```java");
      } else if (inside && !line.isBlank() && !line.startsWith("//")) {
        found.add(line);
      }
    }
    return found;
  }

  /** Each line of the example but its first must be a constant or a call with its answer. */
  private static List<Row> shownRows() throws IOException, ReflectiveOperationException {
    List<String> lines = linesOfTheExample();
    due(1, !lines.isEmpty() && lines.get(0).equals(FIRST_LINE) ? 1 : 0, "the example begins with " + FIRST_LINE);
    Map<String, Integer> names = new HashMap<>();
    List<Row> rows = new ArrayList<>();
    for (String line : lines.subList(Math.min(1, lines.size()), lines.size())) {
      Matcher constant = CONSTANT.matcher(line), call = CALL.matcher(line);
      if (constant.matches()) {
        due(Integer.parseInt(constant.group(3)), numberOf(constant.group(2), names), line);
        names.put(constant.group(1), numberOf(constant.group(2), names));
      } else if (call.matches()) {
        rows.add(shownRow(call, names));
      } else {
        throw new IllegalStateException("no call with an answer: " + line);
      }
    }
    return rows;
  }

  private static Row shownRow(Matcher call, Map<String, Integer> names) throws ReflectiveOperationException {
    String[] texts = call.group(3).isEmpty() ? new String[0] : call.group(3).split(", ");
    int[] given = new int[texts.length];
    Class<?>[] ints = new Class<?>[texts.length];
    for (int i = 0; i < texts.length; i++) {
      given[i] = numberOf(texts[i], names);
      ints[i] = int.class;
    }
    MemberChoice.class.getMethod(call.group(2), ints);
    int answer = Integer.parseInt(call.group(4));
    if (call.group(1) != null) names.put(call.group(1), answer);
    return row(answer, call.group(2), given);
  }

  private static int numberOf(String text, Map<String, Integer> names) throws ReflectiveOperationException {
    if (names.containsKey(text)) return names.get(text);
    return text.startsWith("MemberChoice.") ? constant(text.substring("MemberChoice.".length())) : Integer.parseInt(text);
  }
}
