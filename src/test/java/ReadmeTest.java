import java.io.StringWriter;
import java.lang.reflect.Method;
import java.net.URI;
import java.net.URL;
import java.net.URLClassLoader;
import java.nio.charset.StandardCharsets;
import java.nio.file.Files;
import java.nio.file.Path;
import java.util.ArrayList;
import java.util.Comparator;
import java.util.List;
import java.util.Set;
import java.util.TreeSet;
import java.util.regex.Matcher;
import java.util.regex.Pattern;
import java.util.stream.Stream;
import javax.tools.JavaCompiler;
import javax.tools.JavaFileObject;
import javax.tools.SimpleJavaFileObject;
import javax.tools.ToolProvider;

/**
 * What README.md shows of the class is compiled and played as one run: a line "call; // answer" must answer so.
 * It must show every way of use that it speaks of, and name every call of the class and every refusal.
 */
public final class ReadmeTest {
  private static final Path PAGE = Path.of("README.md");
  private static final Pattern BLOCK = Pattern.compile("```java\n(.*?)```", Pattern.DOTALL);
  private static final Pattern ANSWERED = Pattern.compile("^(ride\\..+); // (-?\\d+|true|false)(?::? .*|,.*)?$");
  private static final String[] WAYS = {
    "An object is made", "A text is told", "Steps are done", "Something is foretold", "Something is seen", "Notes are kept", "A refused call is known"};
  private static int wrong = 0;

  private static void say(String what) { wrong++; System.out.println("README.md: " + what); }

  public static void main(String[] args) throws Exception {
    String page = Files.readString(PAGE, StandardCharsets.UTF_8);
    waysOfUse(page);
    names(page);
    int played = playAll(page);
    System.out.println(wrong == 0 ? played + " calls of README.md answer as it says" : wrong + " wrong");
    if (wrong != 0) { System.exit(1); }
  }

  private static void waysOfUse(String page) {
    int at = 0;
    for (String way : WAYS) {
      int begin = page.indexOf("**" + way + "**", at);
      if (begin < 0) { say("it does not say in its turn: " + way); continue; }
      int next = page.indexOf("\n**", begin + 1);
      String part = page.substring(begin, next < 0 ? page.length() : next);
      if (!part.contains("; // ")) { say("it shows nothing of: " + way); }
      at = begin;
    }
    if (!page.contains("## How to run its tests\n\n    .ci/run\n")) { say("it does not say how to run the tests"); }
  }

  private static void names(String page) throws Exception {
    for (Method m : PaternosterRide.class.getDeclaredMethods()) {
      if (!java.lang.reflect.Modifier.isPublic(m.getModifiers())) { continue; }
      if (!page.contains("`" + m.getName() + "`") && !page.contains("ride." + m.getName() + "(")) { say("it never names " + m.getName()); }
    }
    for (java.lang.reflect.Field f : PaternosterRide.class.getFields()) {
      if (!page.contains("`" + f.getName() + "` " + f.getInt(null))) { say("it never tells what " + f.getName() + " is"); }
    }
    Set<String> tests = new TreeSet<>();
    try (Stream<Path> files = Files.list(Path.of("src/test/java"))) { files.forEach(p -> tests.add(p.getFileName().toString().replace(".java", ""))); }
    for (String test : tests) { if (!page.contains("- `" + test + "`: ")) { say("it does not tell of " + test); } }
  }

  private static int playAll(String page) throws Exception {
    StringBuilder body = new StringBuilder("public final class Shown {\n  public static void play(java.util.List<String> told) {\n");
    List<String> due = new ArrayList<>();
    Matcher block = BLOCK.matcher(page);
    while (block.find()) {
      for (String line : block.group(1).split("\n")) {
        Matcher answered = ANSWERED.matcher(line);
        if (answered.matches()) {
          body.append("told.add(String.valueOf(").append(answered.group(1)).append("));\n");
          due.add(answered.group(1) + " = " + answered.group(2));
        } else {
          if (line.contains("//")) { say("not a call with its answer: " + line); }
          body.append(line).append('\n');
        }
      }
    }
    List<String> told = new ArrayList<>();
    play(body.append("  }\n}\n").toString(), told);
    for (int i = 0; i < due.size(); i++) {
      String call = due.get(i).replaceAll(" = \\S+$", "");
      String got = i < told.size() ? call + " = " + told.get(i) : call + " was not played";
      if (!got.equals(due.get(i))) { say("it says " + due.get(i) + ", but " + got); }
    }
    return due.size();
  }

  private static void play(String source, List<String> told) throws Exception {
    JavaCompiler compiler = ToolProvider.getSystemJavaCompiler();
    Path out = Files.createTempDirectory("shown");
    try {
      JavaFileObject file = new SimpleJavaFileObject(URI.create("string:///Shown.java"), JavaFileObject.Kind.SOURCE) {
        @Override public CharSequence getCharContent(boolean ignoreErrors) { return source; }
      };
      StringWriter messages = new StringWriter();
      List<String> options = List.of("-d", out.toString(), "-cp", System.getProperty("java.class.path"), "--release", "17");
      if (!compiler.getTask(messages, null, null, options, null, List.of(file)).call()) { say("what it shows does not compile: " + messages); return; }
      try (URLClassLoader loader = new URLClassLoader(new URL[] {out.toUri().toURL()}, ReadmeTest.class.getClassLoader())) {
        loader.loadClass("Shown").getMethod("play", List.class).invoke(null, told);
      }
    } finally {
      try (Stream<Path> files = Files.walk(out)) { for (Path p : files.sorted(Comparator.reverseOrder()).toList()) { Files.delete(p); } }
    }
  }
}
