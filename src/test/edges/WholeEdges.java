import java.io.IOException;
import java.lang.reflect.Method;
import java.lang.reflect.Modifier;
import java.nio.charset.StandardCharsets;
import java.nio.file.Files;
import java.nio.file.Path;
import java.util.ArrayList;
import java.util.Arrays;
import java.util.Collections;
import java.util.List;
import java.util.Random;
import java.util.regex.Matcher;
import java.util.regex.Pattern;

/** What stands around the terms and promises: "What it is", "The public face", what the interface says, "Not promised". */
final class WholeEdges {
  private static final Path SOURCE = Path.of("src/main/java/PaternosterRide.java");
  private static final String CONSTANTS = "public static final int NONE = -1, UNKNOWN = -2, OUTSIDE = -3, NOT = -4, FULL = -5,"
    + " NULL = -11, INDEX = -12, ORDER = -13, CAST = -14, ROOM = -15;";
  private static final String[] TOLD = {"write(int letter)", "erase()", "fault()", "hall()", "person(int person, int what)", "cabin(int cabin, int what)", "as(int person, int kind)"};
  private static final String[] DONE = {"step(int n)", "shut(int cabin)", "stairs(int person)", "undo()", "keep(int k)", "back(int k)"};
  private static final String[] FORETOLD = {"behind(int person, int n, int what)", "arrives(int person)", "all()", "meet(int person, int other)", "jam(int what)", "order(int k)",
    "dares(int person, int q, int n, int part)"};
  private static final String[] SEEN = {"seen(int a, int b, int n)", "forget()", "kinds()", "ask()"};
  private static final String[] NOTES = {"notes(int notes)", "insert(int notes, int i, int what, int v)", "look(int notes, int i, int what)", "cut(int notes, int i, int j)",
    "turn(int notes, int i, int j, int d)", "reverse(int notes, int i, int j)", "paste(int to, int k, int from, int i, int j)", "often(int notes, int what, int v)", "drop(int notes)",
    "count(int what)"};

  private WholeEdges() { }

  static void all() throws Exception {
    Edges.section("What it is");
    chain();
    kinds();
    toldAndDone();
    foretold();
    notesAndHouses();
    laterCalls();
    face();
    interfaceSays();
    notPromised();
  }

  private static void chain() {
    Edges.says("A paternoster: an endless chain of open cabins in an old town hall, up one shaft and down the other, over the top and under the bottom,"
      + " that never stops, so one steps in and out of it as it goes;");
    int[] ups = {0, 1, 2, 3, 3, 2, 1, 0};
    StringBuilder round = new StringBuilder("{plain 0 1;plain 3 2;shut 0;bearer 1 3} cabin(0,2)=0 ");
    // Whoever steps in or out, and whether it is shut or not: each step is one place.
    for (int t = 1; t <= 24; t++) { round.append("step(1)=" + t + " cabin(0,1)=" + t % 8 + " cabin(0,2)=" + ups[t % 8] + " cabin(5,1)=" + (t + 5) % 8 + " "); }
    Edges.run(round.toString());
    Edges.run(round.append("undo()=7 cabin(0,1)=7 shut(1) stairs(2)=NOT cabin(0,1)=7").toString());
  }

  private static void kinds() {
    Edges.says("a clerk who will only have an empty one,");
    Edges.run("{hall 3;room 4;plain 0 2;timid 0 2} person(1,0)=1 step(1) person(0,4)=5 person(1,3)=0 step(1) person(1,3)=1 person(1,4)=4");
    Edges.says("a porter with a trunk,");
    Edges.run("{plain 0 3;bearer 0 3} person(1,0)=2 person(1,6)=2 step(1) count(4)=1 step(1) count(4)=3 person(1,4)=6 cabin(6,4)=0");
    Edges.says("a boy who rides right round and is told not to,");
    Edges.run("{hall 2;idler 0 1;plain 0 1} person(0,0)=3 step(1) cabin(3,3)=3 step(1) count(4)=1 count(5)=2 step(3) count(4)=1 step(1) count(5)=3 person(0,5)=5");
    Edges.says("somebody late who takes whichever comes first;");
    Edges.run("{hall 3;hasty 1 2;shut 0} person(0,0)=4 step(1) person(0,4)=3 cabin(3,1)=4 step(3) person(0,3)=1 step(1) person(0,3)=2");
  }

  private static void toldAndDone() {
    Edges.says("floors, cabins with room, shut ones, people of kinds who wait, told in texts, read to their first fault;");
    Edges.run("{hall 6;room 3;shut 11;plain 0 5;timid 5 0;bearer 1 4;idler 2 3;hasty 3 2} count(0)=6 count(7)=3 count(6)=2048 count(1)=5 count(3)=31 person(2,0)=2 person(4,1)=3 person(4,2)=2");
    Edges.fault("hall 6;room 5;shut 99;lift", 12);
    Edges.says("steps, cabins shut, people who take the stairs, undone;");
    Edges.run("{room 1;plain 0 3;bearer 1 0} step(1)=1 shut(2)=1 stairs(1)=0 count(5)=2 count(6)=4 undo()=2 count(5)=0 count(6)=4 undo()=1 count(6)=0 count(2)=1 undo()=0 count(2)=0 count(3)=3 undo()=NOT");
  }

  private static void foretold() {
    Edges.says("who rides where when, when one is there, when all are;");
    Edges.run("{plain 0 3;plain 3 1} behind(0,1,3)=1 behind(0,1,4)=7 behind(0,3,3)=1 behind(0,4,3)=2 behind(1,1,4)=3 arrives(0)=4 arrives(1)=3 all()=4");
    Edges.says("which cabin shut makes it longest, in which order people should step in, when two ride together;");
    Edges.run("{hall 2;plain 0 1} jam(0)=3 jam(1)=3");
    Edges.run("{plain 0 1;timid 0 1} order(-1)=4 order(0)=1 order(1)=0");
    Edges.run("{plain 0 3;plain 0 2} meet(0,1)=1");
    Edges.says("of which kind one is, by how long one took;");
    Edges.run("seen(0,3,4)=1 kinds()=23 forget()=1 seen(0,3,12)=1 kinds()=8");
    Edges.says("odds that one does not dare;");
    Edges.run("{plain 0 1} dares(0,3,2,0)=91 dares(0,3,2,1)=100");
  }

  private static void notesAndHouses() {
    Edges.says("notes of numbers, people, marks, cut, set in, turned about, counted;");
    Edges.run("{plain 0 1} notes(1)=0 insert(1,0,0,-5)=1 insert(1,1,1,0)=2 insert(1,2,2,5)=3 often(1,0,-5)=1 often(1,0,5)=0 often(1,2,5)=1 "
      + "turn(1,0,3,1)=3 look(1,0,2)=5 look(1,1,0)=49995 look(1,2,1)=0 cut(1,0,1)=2 look(1,0,0)=49995 count(9)=2");
    Edges.says("a house kept, all undone.");
    Edges.run("{plain 0 3} step(1) keep(1)=1 step(3)=4 shut(0)=1 back(1)=1 count(4)=1 count(6)=0 count(10)=0 undo()=NOT");
  }

  private static void laterCalls() throws Exception {
    Edges.says("what later calls answer is free.");
    PaternosterRide old = new PaternosterRide();
    Random dice = new Random(11);
    for (int i = 0; i < 40; i++) {
      for (char c : "hall 5;room 1;plain 0 4;idler 3 1;timid 0 2".toCharArray()) { old.write(c); }
      old.hall();
      callAll(old, dice, 20);
      old.erase();
    }
    // No call may throw, whatever it is asked and however late.
    Edges.holds("an old object still answers", old.count(0) >= 2);
  }

  private static void callAll(PaternosterRide ride, Random dice, int times) throws Exception {
    int[] wild = {Integer.MIN_VALUE, -100, -1, 0, 0, 0, 1, 1, 2, 3, 4, 5, 6, 12, 13, 60, 100, Integer.MAX_VALUE};
    for (int i = 0; i < times; i++) {
      for (Method m : PaternosterRide.class.getDeclaredMethods()) {
        if (!Modifier.isPublic(m.getModifiers())) { continue; }
        Object[] args = new Object[m.getParameterCount()];
        for (int a = 0; a < args.length; a++) { args[a] = wild[dice.nextInt(wild.length)]; }
        m.invoke(ride, args);
      }
    }
  }

  // ---- the face

  private static String source() throws IOException { return Files.readString(SOURCE, StandardCharsets.ISO_8859_1); }

  private static int howOften(String whole, String part) { return (whole.length() - whole.replace(part, "").length()) / part.length(); }

  private static String[] faceInOrder() {
    List<String> all = new ArrayList<>();
    for (String[] part : new String[][] {TOLD, DONE, FORETOLD, SEEN, NOTES}) { all.addAll(Arrays.asList(part)); }
    return all.toArray(new String[0]);
  }

  private static void face() throws IOException {
    String source = source();
    Edges.section("The public face");
    Edges.says("public final class PaternosterRide {");
    Edges.holds("the source has one such line", howOften(source, "\npublic final class PaternosterRide {\n") == 1);
    Edges.says(CONSTANTS);
    Edges.holds("the source has one such line", howOften(source, "\n    " + CONSTANTS + "\n") == 1);
    Edges.says("public PaternosterRide();");
    Edges.holds("the source has one such line", howOften(source, "\n    public PaternosterRide() {\n") == 1);
    for (String call : faceInOrder()) {
      Edges.says("public int " + call + ";");
      Edges.holds("the source has one such line", howOften(source, "\n    public int " + call + " {\n") == 1);
    }
    Edges.says("}");
    Edges.holds("nothing else is public", howOften(source, "public ") == 3 + faceInOrder().length);
  }

  private static void interfaceSays() throws IOException {
    Edges.section("Terms");
    says("what is told", TOLD);
    says("what is done", DONE);
    says("foretold", FORETOLD);
    says("what was seen", SEEN);
    says("notes", NOTES);
  }

  /** Behind the line that the interface says come these calls, in this order, and no other one up to the next such line. */
  private static void says(String words, String[] calls) throws IOException {
    StringBuilder names = new StringBuilder();
    for (String call : calls) { names.append(names.length() == 0 ? "`" : ", `").append(call, 0, call.indexOf('(')).append('`'); }
    Edges.says("Ahead of the calls " + names + " the interface says: ---- " + words + ".");
    String source = source(), line = "\n    // ---- " + words + "\n";
    int begin = source.indexOf(line), end = source.indexOf("\n    // ---- ", begin + 1);
    Edges.holds("the source says so once", begin >= 0 && end > begin && howOften(source, line) == 1);
    List<String> found = new ArrayList<>();
    Matcher m = Pattern.compile("\n    public int ([^{]*) \\{").matcher(source.substring(Math.max(0, begin), Math.max(0, end)));
    while (m.find()) { found.add(m.group(1)); }
    Edges.holds("behind it come " + found, found.equals(Arrays.asList(calls)));
  }

  // ---- what is not promised

  private static void notPromised() throws Exception {
    Edges.section("Not promised");
    Edges.says("How the state is held inside the object is free, as are the speed of each call, the text of toString and the behaviour of equals and hashCode.");
    for (Method m : PaternosterRide.class.getDeclaredMethods()) { Edges.holds("has its own " + m.getName(), !List.of("toString", "equals", "hashCode").contains(m.getName())); }
    Edges.says("Use of one object from several threads at once is not promised to be safe.");
    Edges.holds("an object in each thread answers as one alone", threads().stream().distinct().count() == 1);
    Edges.says("Nothing is promised beyond the answers and state changes described above,");
    Edges.still(RideEdges.SCENE, "fault()=NONE", "person(0,3)=2", "cabin(0,1)=3", "as(0,1)=1", "behind(2,60,3)=0", "arrives(0)=0", "all()=NONE", "meet(0,1)=NONE", "jam(0)", "jam(1)", "order(-1)", "order(0)",
      "dares(2,3,8,0)=0", "dares(3,3,8,1)", "kinds()", "ask()", "look(0,0,0)=50005", "often(0,0,5)=1", "count(9)=3");
    Edges.apart(RideEdges.SCENE, "{hall 2;hasty 0 1} step(1) keep(0) shut(0) step(1) seen(0,1,3) notes(0) notes(1) insert(0,0,0,9) order(-1) jam(0) 'hall 7'");
    Edges.apart("", RideEdges.SCENE + "erase() {hall 7} shut(13) step(12) keep(1)");
    Edges.says("and nothing about an object after its 512th call.");
    Edges.run("count(0)*500 step(1)*11 step(1)=12");
    Edges.run("count(0)*510 'h' write(97)=2");
    Edges.run("{plain 0 3} count(0)*501 arrives(0)=4");
  }

  private static List<Integer> threads() throws InterruptedException {
    List<Integer> sums = Collections.synchronizedList(new ArrayList<>());
    List<Thread> threads = new ArrayList<>();
    for (int i = 0; i < 4; i++) {
      Thread thread = new Thread(() -> sums.add(sumOfARide()));
      threads.add(thread);
      thread.start();
    }
    for (Thread thread : threads) { thread.join(); }
    sums.add(sumOfARide());
    if (sums.size() != 5) { sums.add(-1); }
    return sums;
  }

  private static int sumOfARide() {
    int sum = 0;
    for (int round = 0; round < 20; round++) {
      PaternosterRide ride = new PaternosterRide();
      for (char c : "hall 5;room 1;plain 0 4;idler 0 1;timid 0 2;hasty 0 3;bearer 0 2".toCharArray()) { ride.write(c); }
      sum = 31 * sum + ride.hall();
      for (int t = 0; t < 12; t++) { sum = 31 * (31 * (31 * sum + ride.order(-1)) + ride.all()) + 7 * ride.jam(0) + ride.step(1); }
    }
    return sum;
  }
}
