import java.lang.management.ManagementFactory;
import java.lang.reflect.Constructor;
import java.lang.reflect.Field;
import java.lang.reflect.Method;
import java.lang.reflect.Modifier;
import java.nio.charset.StandardCharsets;
import java.nio.file.Files;
import java.nio.file.Path;
import java.util.ArrayList;
import java.util.Arrays;
import java.util.List;
import java.util.Map;
import java.util.Set;
import java.util.TreeMap;
import java.util.TreeSet;
import java.util.regex.Matcher;
import java.util.regex.Pattern;

/** The public face, and of LANGUAGE.md what can be told by looking: words, lengths, members, what a call makes. */
public final class FaceTest {
  private static final String[] FACE = {
    "write 1", "erase 0", "fault 0", "hall 0", "person 2", "cabin 2", "as 2", "step 1", "shut 1", "stairs 1", "undo 0", "keep 1",
    "back 1", "behind 3", "arrives 1", "all 0", "meet 2", "jam 1", "order 1", "dares 4", "seen 3", "forget 0", "kinds 0", "ask 0",
    "notes 1", "insert 4", "look 3", "cut 3", "turn 4", "reverse 3", "paste 5", "often 3", "drop 1", "count 1"};
  private static final String[] CONSTANTS = {
    "CAST -14", "FULL -5", "INDEX -12", "NONE -1", "NOT -4", "NULL -11", "ORDER -13", "OUTSIDE -3", "ROOM -15", "UNKNOWN -2"};
  private static final String SOURCE = "src/main/java/PaternosterRide.java";
  private static int wrong = 0;

  private static void say(String what) { wrong++; System.out.println(what); }

  public static void main(String[] args) throws Exception {
    methods();
    constants();
    classes();
    String code = bare(Files.readString(Path.of(SOURCE), StandardCharsets.ISO_8859_1));
    words(code);
    lengths(code);
    depths(code);
    whatCallsMake();
    System.out.println(wrong == 0 ? "the face is as told" : wrong + " wrong");
    if (wrong != 0) { System.exit(1); }
  }

  private static void methods() {
    Set<String> found = new TreeSet<>();
    for (Method m : PaternosterRide.class.getDeclaredMethods()) {
      if (Modifier.isPrivate(m.getModifiers())) { continue; }
      if (!Modifier.isPublic(m.getModifiers()) || Modifier.isStatic(m.getModifiers()) || m.getReturnType() != int.class) { say("not of the face: " + m); }
      for (Class<?> c : m.getParameterTypes()) { if (c != int.class) { say("not an int: " + m); } }
      found.add(m.getName() + " " + m.getParameterCount());
    }
    if (!found.equals(new TreeSet<>(Arrays.asList(FACE)))) { say("methods are " + found); }
    Constructor<?>[] made = PaternosterRide.class.getDeclaredConstructors();
    if (made.length != 1 || !Modifier.isPublic(made[0].getModifiers()) || made[0].getParameterCount() != 0) { say("constructors are " + Arrays.toString(made)); }
    int modifiers = PaternosterRide.class.getModifiers();
    if (!Modifier.isFinal(modifiers) || !Modifier.isPublic(modifiers)) { say("the class is not public and final"); }
  }

  private static void constants() throws Exception {
    Set<String> found = new TreeSet<>();
    for (Field f : PaternosterRide.class.getDeclaredFields()) {
      if (Modifier.isPrivate(f.getModifiers())) { continue; }
      if (f.getType() != int.class || f.getModifiers() != (Modifier.PUBLIC | Modifier.STATIC | Modifier.FINAL)) { say("not of the face: " + f); continue; }
      found.add(f.getName() + " " + f.getInt(null));
    }
    if (!found.equals(new TreeSet<>(Arrays.asList(CONSTANTS)))) { say("constants are " + found); }
  }

  private static void classes() {
    List<Class<?>> all = new ArrayList<>(Arrays.asList(PaternosterRide.class.getDeclaredClasses()));
    if (all.size() + 1 > 12) { say("there are " + (all.size() + 1) + " classes"); }
    all.add(PaternosterRide.class);
    Set<String> face = new TreeSet<>();
    for (String m : FACE) { face.add(m.split(" ")[0]); }
    for (Class<?> c : all) {
      if (c != PaternosterRide.class && (Modifier.isPublic(c.getModifiers()) || Modifier.isProtected(c.getModifiers()) || !Modifier.isStatic(c.getModifiers()))) { say("not as a class inside may be: " + c); }
      int fields = 0;
      for (Field f : c.getDeclaredFields()) {
        if (!Modifier.isStatic(f.getModifiers())) { fields++; }
        else if (!Modifier.isFinal(f.getModifiers())) { say("static and not final: " + f); }
      }
      if (fields > 20) { say(c + " has " + fields + " fields"); }
      for (Method m : c.getDeclaredMethods()) {
        if (m.getParameterCount() > 7) { say("too many parameters: " + m); }
        if (face.contains(m.getName()) && !(c == PaternosterRide.class && Modifier.isPublic(m.getModifiers()))) { say("bears the name of a public one: " + m); }
      }
    }
  }

  /** The source without comments and without what stands between quotes. */
  private static String bare(String source) {
    for (char c : source.toCharArray()) { if (c != '\n' && (c < 32 || c > 126)) { say("the source has a sign " + (int) c); } }
    return source.replaceAll("(?s)/\\*.*?\\*/", "").replaceAll("//[^\n]*", "").replaceAll("\"[^\"\n]*\"", "\"\"").replaceAll("'[^'\n]*'", "' '");
  }

  private static void words(String code) {
    String[] forbidden = {"\\bthrow\\b", "\\bthrows\\b", "\\btry\\b", "\\bcatch\\b", "\\bsynchronized\\b", "\\bassert\\b", "->", "::", "\\bpackage\\b", "\\bimport\\b",
      "\\bvar\\b", "\\bhashCode\\b", "\\btoString\\b", "\\bordinal\\b", "\\bvalues\\(", "\\w+Exact\\b", "\\bObject\\b", "\\bdouble\\b", "\\bfloat\\b", "\"\" \\+", "\\+ \"\"", "\\bSystem\\.(?!arraycopy)"};
    for (String word : forbidden) {
      Matcher m = Pattern.compile(word).matcher(code);
      if (m.find()) { say("the source has " + m.group()); }
    }
    // Every object is made with the ride itself: no method but a constructor says new.
    Matcher made = Pattern.compile("\n( *)(?:[\\w\\[\\]]+ )*[\\w\\[\\]]+ (\\w+)\\([^)]*\\) \\{(.*?)\n\\1\\}", Pattern.DOTALL).matcher(code);
    while (made.find()) { if (made.group(3).contains("new ") && !made.group(2).equals("PaternosterRide")) { say("an object is made in " + made.group(2)); } }
  }

  private static void lengths(String code) {
    String[] lines = code.split("\n");
    for (int i = 0; i < lines.length; i++) {
      Matcher m = Pattern.compile("^( ++)(?!if |for |while |switch |else ).*\\) \\{$").matcher(lines[i]);
      if (!m.matches()) { continue; }
      int end = i;
      while (end < lines.length && !lines[end].equals(m.group(1) + "}")) { end++; }
      if (end - i > 60) { say("too long: " + lines[i].trim()); }
    }
  }

  /** Calls go at most eight deep; methods of one name are taken as one, which can make it seem deeper, but never less deep. */
  private static void depths(String code) {
    Map<String, StringBuilder> bodies = new TreeMap<>();
    Matcher m = Pattern.compile("\n( {4}| {8})(?! |if |for |while |switch |else |return |do )[\\w\\[\\] ]*?(\\w+)\\([^()]*\\) \\{(.*?)\n\\1\\}", Pattern.DOTALL).matcher(code);
    for (int at = 0; m.find(at); at = m.end()) { bodies.computeIfAbsent(m.group(2), name -> new StringBuilder()).append(m.group(3)); }
    Map<String, Set<String>> calls = new TreeMap<>();
    for (String name : bodies.keySet()) {
      Set<String> called = new TreeSet<>();
      Matcher c = Pattern.compile("(\\w+)\\(").matcher(bodies.get(name));
      while (c.find()) { if (bodies.containsKey(c.group(1))) { called.add(c.group(1)); } }
      calls.put(name, called);
    }
    for (String face : FACE) {
      if (!calls.containsKey(face.split(" ")[0])) { say("no body was found of " + face); continue; }
      List<String> path = deepest(face.split(" ")[0], calls, new ArrayList<>());
      if (path.size() > 8) { say("too deep, or without end: " + path); }
    }
  }

  private static List<String> deepest(String name, Map<String, Set<String>> calls, List<String> above) {
    List<String> path = new ArrayList<>(above);
    path.add(name);
    List<String> longest = path;
    if (path.size() > 20) { return path; }
    for (String called : calls.get(name)) {
      List<String> found = deepest(called, calls, path);
      if (found.size() > longest.size()) { longest = found; }
    }
    return longest;
  }

  private static void whatCallsMake() {
    com.sun.management.ThreadMXBean meter = (com.sun.management.ThreadMXBean) ManagementFactory.getThreadMXBean();
    long made = Long.MAX_VALUE;
    for (int round = 0; round < 5; round++) {
      PaternosterRide x = new PaternosterRide();
      long before = meter.getThreadAllocatedBytes(Thread.currentThread().getId());
      useAll(x);
      made = Math.min(made, meter.getThreadAllocatedBytes(Thread.currentThread().getId()) - before);
    }
    if (made > 1000) { say("the calls make " + made + " bytes"); }
  }

  private static void useAll(PaternosterRide x) {
    String text = "hall 4;room 1;plain 0 1;timid 0 3;bearer 0 2;idler 0 1;hasty 0 2;plain 0 3";
    for (int i = 0; i < text.length(); i++) { x.write(text.charAt(i)); }
    x.fault(); x.hall(); x.erase();
    for (int i = 0; i < 20; i++) {
      x.person(i % 6, 4); x.cabin(i % 8, 4); x.as(i % 6, 1); x.step(1); x.shut(i % 8); x.stairs(0); x.undo(); x.keep(0); x.back(0);
      x.behind(0, 60, 4); x.arrives(1); x.all(); x.meet(0, 1); x.jam(0); x.jam(1); x.order(-1); x.order(3); x.dares(0, 3, 8, 1);
      x.seen(0, 1, 2); x.kinds(); x.ask(); x.forget();
    }
    for (int i = 0; i < 12; i++) { x.notes(0); x.insert(0, 0, 0, i); x.look(0, 0, 0); x.paste(0, 0, 0, 0, 1); x.turn(0, 0, 2, 1); x.reverse(0, 0, 2); x.often(0, 0, 1); x.cut(0, 0, 1); x.drop(0); x.count(9); }
  }
}
