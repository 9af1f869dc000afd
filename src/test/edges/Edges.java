import java.io.IOException;
import java.lang.reflect.InvocationTargetException;
import java.lang.reflect.Method;
import java.nio.charset.StandardCharsets;
import java.nio.file.Files;
import java.nio.file.Path;
import java.util.ArrayList;
import java.util.Arrays;
import java.util.HashMap;
import java.util.List;
import java.util.Map;
import java.util.regex.Matcher;
import java.util.regex.Pattern;

/**
 * Checks of single sentences of the document. says() names the sentence, and it must stand there word for word;
 * every check behind it belongs to it; at the end every word that the document promises must have been named.
 *
 * A script is a row of items, played on a new object:
 *   {hall 3;plain 0 1}   the letters are written and hall() is called, which must take them
 *   'hall 3'             the letters are written
 *   step(3)              a call, whatever it answers
 *   step(3)=3            a call, and the answer that is due
 *   step(12)*83          a call, so often
 */
final class Edges {
  private static final Path DOCUMENT = Path.of("../shared/DOC.md");
  private static final int MOST_CALLS = 512;
  private static final Map<String, Integer> WORDS = Map.ofEntries(
    Map.entry("NONE", -1), Map.entry("UNKNOWN", -2), Map.entry("OUTSIDE", -3), Map.entry("NOT", -4), Map.entry("FULL", -5),
    Map.entry("NULL", -11), Map.entry("INDEX", -12), Map.entry("ORDER", -13), Map.entry("CAST", -14), Map.entry("ROOM", -15),
    Map.entry("MIN", Integer.MIN_VALUE), Map.entry("MAX", Integer.MAX_VALUE));
  private static final Pattern ITEM = Pattern.compile("\\{([^}]*)\\}|'([^']*)'|(\\w+)\\(([^)]*)\\)(?:\\*(\\d+))?(?:=(-?\\w+))?");
  private static final Map<String, Method> CALLS = new HashMap<>();
  private static final String[] PROBES = {
    counts() + people() + "kinds() ask() fault() all() jam(0) jam(1) order(-1) order(0) order(5) meet(0,1) forget() kinds()",
    each("cabin", 14, 5) + each("dares(", 8, ",3,8,0)") + each("arrives(", 8, ")") + "erase() fault()",
    notes() + each("drop(", 3, ")"),
    "undo() ".concat(counts()).concat(states()).repeat(5),
    "undo() ".repeat(4) + ("undo() " + counts() + states()).repeat(5),
    "back(0) " + counts() + people() + "undo() step(1) undo()",
    "back(1) " + counts() + people() + "undo() step(1) undo()",
    "hall() " + counts() + people() + "fault() undo() back(0) back(1)",
    "step(1) shut(1) " + counts() + states() + "undo() undo() undo() seen(0,1,2) kinds() notes(1) count(9)"};

  private static String document = "";
  private static boolean[] named = new boolean[0];
  private static int from = 0, to = 0;
  private static String sentence = "";
  private static int checksOfSentence = 1;
  private static int checks = 0;
  private static int wrong = 0;

  private Edges() { }

  // ---- what a run of the tests begins and ends with

  static void begin() throws IOException {
    for (Method m : PaternosterRide.class.getMethods()) { if (m.getDeclaringClass() == PaternosterRide.class) { CALLS.put(m.getName(), m); } }
    if (!Files.exists(DOCUMENT)) { System.out.println("there is no " + DOCUMENT + ": the words of the sentences are not looked up"); return; }
    document = Files.readString(DOCUMENT, StandardCharsets.UTF_8).replaceAll("\\s+", " ");
    named = new boolean[document.length()];
    nameAll("## Promise \\d+: (A new object|\\w+)");
    nameAll("`int \\w+\\([^)]*\\)`:|`PaternosterRide\\(\\)`:|```text|```java|========");
    nameAll("# PaternosterRide |## (What it is|The public face|Terms|Not promised)");
  }

  private static void nameAll(String pattern) {
    Matcher m = Pattern.compile(pattern).matcher(document);
    while (m.find()) { Arrays.fill(named, m.start(), m.end(), true); }
  }

  static boolean end() {
    endSentence();
    lookForUnnamed();
    System.out.println(wrong == 0 ? checks + " checks of single sentences hold" : wrong + " are not as due");
    return wrong == 0;
  }

  private static void lookForUnnamed() {
    if (document.isEmpty()) { return; }
    StringBuilder left = new StringBuilder();
    for (int i = 0; i <= document.length(); i++) {
      if (i < document.length() && !named[i]) { left.append(document.charAt(i)); continue; }
      if (left.toString().matches(".*\\w.*")) { fail("no test names: " + left); }
      left.setLength(0);
    }
  }

  // ---- what is being tested

  static void section(String heading) {
    endSentence();
    if (document.isEmpty()) { return; }
    from = document.indexOf("## " + heading);
    if (from < 0) { fail("the document has no part " + heading); from = 0; }
    to = document.indexOf(" ## ", from + 1);
    if (to < 0) { to = document.length(); }
  }

  static void promise(int number) { section("Promise " + number + ":"); }

  static void says(String quote) {
    endSentence();
    sentence = quote;
    checksOfSentence = 0;
    if (document.isEmpty()) { return; }
    int at = document.indexOf(quote, from);
    if (at < 0 || at + quote.length() > to) { fail("the document does not say so there"); return; }
    Arrays.fill(named, at, at + quote.length(), true);
  }

  private static void endSentence() {
    if (checksOfSentence == 0) { fail("nothing is checked of it"); }
    checksOfSentence = 1;
  }

  private static void fail(String what) {
    wrong++;
    System.out.println("\"" + sentence + "\": " + what);
  }

  // ---- checks

  static void run(String script) { play(new Ride(), script); }

  /** Each call answers as told, and then everything is as it would be without it. */
  static void still(String scene, String... calls) {
    for (String call : calls) {
      for (String probe : PROBES) {
        Ride with = new Ride(), without = new Ride();
        play(with, scene);
        play(without, scene);
        play(with, call);
        String a = answers(with, probe), b = answers(without, probe);
        if (!a.equals(b)) { fail(scene + " " + call + " changed something: " + a + " instead of " + b); break; }
      }
    }
  }

  /** What is done to another object changes nothing of the one of the scene. */
  static void apart(String scene, String other) {
    for (String probe : PROBES) {
      Ride alone = new Ride(), beside = new Ride();
      play(alone, scene);
      String a = answers(alone, probe);
      play(beside, scene);
      play(new Ride(), other);
      String b = answers(beside, probe);
      holds("an object answers alike beside another one: " + a + " and " + b, a.equals(b));
    }
  }

  /** What no script can tell. */
  static void holds(String what, boolean so) { due(what, so ? 1 : 0, 1); }

  /** The FAULT of a text behind a scene, looked at twice; hall() takes the text just if there is none. */
  static void faultBehind(String scene, String text, int at) {
    Ride ride = new Ride();
    play(ride, scene);
    for (char c : text.toCharArray()) { ride.call("write", c); }
    for (int i = 0; i < 2; i++) { due(scene + " '" + text + "' fault()", ride.call("fault"), at); }
    due(scene + " '" + text + "' count(11)", ride.call("count", 11), text.length());
    int done = ride.call("hall");
    if (at >= 0) {
      due(scene + " '" + text + "' hall()", done, -4);
      due(scene + " '" + text + "' hall() fault()", ride.call("fault"), at);
    } else if (done < 1) {
      fail(scene + " '" + text + "' hall() answered " + done);
    }
    due(scene + " '" + text + "' hall() count(11)", ride.call("count", 11), at >= 0 ? text.length() : 0);
  }

  static void fault(String text, int at) { faultBehind("", text, at); }

  static void sound(String... texts) { for (String text : texts) { fault(text, -1); } }

  private static void due(String what, int got, int want) {
    checks++;
    checksOfSentence++;
    if (got != want) { fail(what + " answered " + got + ", due is " + want); }
  }

  // ---- scripts

  /** A new object that counts its calls, as nothing is promised beyond the 512th. */
  private static final class Ride {
    private final PaternosterRide object = new PaternosterRide();
    private int calls = 0;

    int call(String name, int... args) {
      calls++;
      if (calls > MOST_CALLS) { throw new IllegalStateException("a test calls one object more than 512 times"); }
      Object[] boxed = new Object[args.length];
      for (int i = 0; i < args.length; i++) { boxed[i] = args[i]; }
      try {
        return (Integer) CALLS.get(name).invoke(object, boxed);
      } catch (InvocationTargetException thrown) {
        fail(name + Arrays.toString(args) + " threw " + thrown.getCause());
        return Integer.MIN_VALUE;
      } catch (ReflectiveOperationException | NullPointerException | IllegalArgumentException unfit) {
        throw new IllegalStateException("no such call: " + name + Arrays.toString(args), unfit);
      }
    }
  }

  private static void play(Ride ride, String script) { playAll(ride, script, new ArrayList<>()); }

  private static String answers(Ride ride, String script) {
    List<String> told = new ArrayList<>();
    playAll(ride, script, told);
    return told.toString();
  }

  private static void playAll(Ride ride, String script, List<String> told) {
    Matcher m = ITEM.matcher(script);
    int end = 0;
    while (m.find()) {
      if (!script.substring(end, m.start()).isBlank()) { throw new IllegalStateException("not a script: " + script.substring(end)); }
      end = m.end();
      if (m.group(1) != null) { tell(ride, m.group(1)); continue; }
      if (m.group(2) != null) { spell(ride, m.group(2)); continue; }
      int[] args = numbers(m.group(4));
      int times = m.group(5) == null ? 1 : Integer.parseInt(m.group(5));
      for (int i = 0; i < times; i++) {
        int got = ride.call(m.group(3), args);
        if (m.group(6) != null) { due(script.substring(0, end).trim(), got, number(m.group(6))); }
        told.add(m.group(3) + Arrays.toString(args) + "=" + got);
      }
    }
    if (!script.substring(end).isBlank()) { throw new IllegalStateException("not a script: " + script.substring(end)); }
  }

  private static void spell(Ride ride, String text) {
    for (char c : text.toCharArray()) { ride.call("write", c); }
  }

  private static void tell(Ride ride, String text) {
    spell(ride, text);
    int done = ride.call("hall");
    if (done < 1) { fail("hall() of " + text + " answered " + done); }
  }

  private static int[] numbers(String list) {
    if (list.isBlank()) { return new int[0]; }
    return Arrays.stream(list.split(",")).mapToInt(s -> number(s.trim())).toArray();
  }

  private static int number(String word) { return WORDS.containsKey(word) ? WORDS.get(word) : Integer.parseInt(word); }

  // ---- what shows whether something has changed

  static String each(String call, int many, String rest) {
    StringBuilder b = new StringBuilder();
    for (int i = 0; i < many; i++) { b.append(call).append(i).append(rest).append(' '); }
    return b.toString();
  }

  private static String each(String call, int many, int whats) {
    StringBuilder b = new StringBuilder();
    for (int what = 0; what < whats; what++) { b.append(each(call + "(", many, "," + what + ")")); }
    return b.toString();
  }

  private static String counts() { return each("count(", 12, ")"); }

  private static String people() { return each("person", 8, 7); }

  private static String states() { return each("person(", 8, ",3)") + each("person(", 8, ",4)") + each("person(", 8, ",5)"); }

  private static String notes() {
    StringBuilder b = new StringBuilder();
    for (int row = 0; row < 3; row++) { for (int what = 0; what < 3; what++) { b.append(each("look(" + row + ",", 12, "," + what + ")")); } }
    return b.toString();
  }
}
