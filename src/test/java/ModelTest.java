import java.lang.reflect.Method;
import java.math.BigInteger;
import java.util.ArrayDeque;
import java.util.ArrayList;
import java.util.Arrays;
import java.util.Collections;
import java.util.HashMap;
import java.util.List;
import java.util.Map;
import java.util.Random;
import java.util.TreeMap;
import java.util.TreeSet;

/**
 * Plays long runs of calls on the program and on a second, slow telling of the document, and compares every answer.
 * The seeds are fixed, so a run that fails can be played again.
 */
public final class ModelTest {
  private static final int RUNS = 400, CALLS = 512;
  private static final Map<String, Method> PROGRAM = methodsOf(PaternosterRide.class);
  private static final Map<String, Method> MODEL = methodsOf(Model.class);

  private static Map<String, Method> methodsOf(Class<?> type) {
    Map<String, Method> found = new HashMap<>();
    for (Method m : type.getDeclaredMethods()) {
      if (m.getReturnType() == int.class && java.lang.reflect.Modifier.isPublic(m.getModifiers())) { m.setAccessible(true); found.put(m.getName(), m); }
    }
    return found;
  }

  public static void main(String[] args) throws Exception {
    int wrong = 0;
    TreeMap<String, TreeSet<String>> reached = new TreeMap<>();
    for (int seed = 1; seed <= RUNS; seed++) {
      if (!new Run(seed, reached).play()) { wrong++; }
    }
    wrong += unreached(reached);
    System.out.println(wrong == 0 ? RUNS + " runs agree with the model" : wrong + " wrong");
    if (wrong != 0) { System.exit(1); }
  }

  /** The runs must have met every refusal of every call, or they prove less than they seem to. */
  private static int unreached(Map<String, TreeSet<String>> reached) {
    String[] due = {
      "write OUTSIDE FULL", "hall NOT", "fault NONE", "person UNKNOWN OUTSIDE NONE", "cabin UNKNOWN OUTSIDE",
      "as UNKNOWN OUTSIDE NOT", "step OUTSIDE FULL", "shut UNKNOWN", "stairs UNKNOWN NOT", "undo NOT", "keep UNKNOWN",
      "back UNKNOWN NOT", "behind UNKNOWN OUTSIDE NONE", "arrives UNKNOWN NONE", "all NONE", "meet UNKNOWN NONE",
      "jam OUTSIDE NONE", "order OUTSIDE NONE", "dares UNKNOWN OUTSIDE", "seen OUTSIDE FULL", "ask NONE", "notes UNKNOWN",
      "insert UNKNOWN OUTSIDE NULL INDEX ROOM", "look UNKNOWN OUTSIDE NULL INDEX CAST", "cut UNKNOWN NULL INDEX ORDER",
      "turn UNKNOWN OUTSIDE NULL INDEX ORDER", "reverse UNKNOWN NULL INDEX ORDER",
      "paste UNKNOWN NULL INDEX ORDER ROOM", "often UNKNOWN OUTSIDE NULL", "drop UNKNOWN NULL", "count OUTSIDE"};
    int missing = 0;
    for (String line : due) {
      String[] words = line.split(" ");
      for (int i = 1; i < words.length; i++) {
        if (!reached.getOrDefault(words[0], new TreeSet<>()).contains(words[i])) {
          System.out.println("no run has met " + words[0] + " answering " + words[i]);
          missing++;
        }
      }
    }
    for (String name : PROGRAM.keySet()) {
      if (!reached.getOrDefault(name, new TreeSet<>()).contains("some")) { System.out.println("no run has met an answer of " + name); missing++; }
    }
    return missing;
  }

  private static String nameOf(int answer) {
    switch (answer) {
      case -1: return "NONE"; case -2: return "UNKNOWN"; case -3: return "OUTSIDE"; case -4: return "NOT"; case -5: return "FULL";
      case -11: return "NULL"; case -12: return "INDEX"; case -13: return "ORDER"; case -14: return "CAST"; case -15: return "ROOM";
      default: return "some";
    }
  }

  /** One run of calls by one seed. */
  private static final class Run {
    final int seed;
    final Random dice;
    final PaternosterRide program = new PaternosterRide();
    final Model model = new Model();
    final Map<String, TreeSet<String>> reached;
    final List<String> told = new ArrayList<>();
    int calls = 0;
    boolean agreed = true;

    Run(int seed, Map<String, TreeSet<String>> reached) { this.seed = seed; this.dice = new Random(seed); this.reached = reached; }

    boolean play() throws Exception {
      if (seed % 8 == 0) { fillText(); }
      if (seed % 8 == 1) { goFar(); }
      if (seed % 8 > 1) { tell(); }
      if (seed % 4 == 2) { fillNotes(); }
      if (seed % 4 == 3) { crowd(); }
      while (calls < CALLS && agreed) {
        int pick = dice.nextInt(100);
        if (pick < 2 && calls < CALLS - 150) { tell(); }
        else if (pick < 3) { call("erase"); }
        else { any(); }
      }
      return agreed;
    }

    void fillText() throws Exception {
      for (int i = 0; i < 203 && agreed; i++) { call("write", i % 50 == 49 ? 256 : dice.nextInt(256)); }
      call("fault");
      call("erase");
    }

    void goFar() throws Exception {
      tell();
      for (int i = 0; i < 84 && agreed; i++) { call("step", 12); }
      for (int i = 0; i < 4 && agreed; i++) { call("step", 1 + dice.nextInt(2)); }
    }

    void fillNotes() throws Exception {
      call("notes", 0);
      call("notes", 1);
      for (int i = 0; i < 14; i++) { int what = dice.nextInt(3); call("insert", 0, dice.nextInt(i + 1), what, thing(what)); }
      for (int i = 0; i < 12; i++) { call("paste", dice.nextInt(2), dice.nextInt(13), dice.nextInt(2), dice.nextInt(7), dice.nextInt(13)); }
    }

    /** Many on one floor in narrow cabins, as then the order in which they look tells. */
    void crowd() throws Exception {
      int floors = 2 + dice.nextInt(4), from = dice.nextInt(floors), people = 4 + dice.nextInt(3);
      StringBuilder b = new StringBuilder("hall " + floors + ";room " + (1 + dice.nextInt(3)));
      for (int i = 0; i < people; i++) {
        int here = dice.nextInt(6) == 0 ? (from + 1) % floors : from;
        b.append(";").append(Model.WORDS.get(dice.nextInt(5))).append(" ").append(here).append(" ").append((here + 1 + dice.nextInt(floors - 1)) % floors);
      }
      call("erase");
      for (char c : b.toString().toCharArray()) { call("write", c); }
      call("hall");
      // Few open cabins make people wait for turns on end, up to what can be foretold and beyond.
      int open = dice.nextInt(3) == 0 ? 1 + dice.nextInt(2) : 2 * floors;
      for (int c = 0; c < 2 * floors - open; c++) { call("shut", (c + seed) % (2 * floors)); }
      for (int i = 0; i < 3; i++) {
        call("order", -1);
        call("order", dice.nextInt(6));
        call("order", 0);
        call("jam", 0);
        call("jam", 1);
        for (int p = 0; p < people; p++) { call("arrives", p); call("meet", p, dice.nextInt(people)); }
        if (i == 0) { call("shut", someCabin()); }
        if (i == 1) { call("step", 1); }
      }
    }

    void tell() throws Exception {
      String text = text();
      if (dice.nextInt(3) == 0) { text = spoilt(text); }
      if (dice.nextInt(8) != 0) { call("erase"); }
      for (char c : text.toCharArray()) { call("write", c); }
      call("fault");
      call("hall");
      if (dice.nextBoolean()) { call("erase"); }
      for (int what = 0; what < 12; what++) { call("count", what); }
      for (int n = 0; n < 3; n++) { if (dice.nextBoolean()) { call("notes", n); } }
    }

    String text() {
      StringBuilder b = new StringBuilder();
      int floors = 2 + dice.nextInt(6), clauses = 1 + dice.nextInt(12), busy = dice.nextInt(floors);
      boolean crowd = dice.nextBoolean();
      if (dice.nextInt(4) != 0) { b.append("hall").append(blanks(1)).append(floors).append(blanks(0)).append(';').append(blanks(0)); }
      else { floors = model.count(0); busy = dice.nextInt(floors); }
      for (int i = 0; i < clauses; i++) {
        if (i > 0) { b.append(blanks(0)).append(';').append(blanks(0)); }
        int pick = dice.nextInt(12);
        if (pick == 0) { b.append("room").append(blanks(1)).append(1 + dice.nextInt(4)); }
        else if (pick == 1) { b.append("shut").append(blanks(1)).append(dice.nextInt(2 * floors)); }
        else if (pick == 2 && dice.nextInt(6) == 0) { floors = 2 + dice.nextInt(6); busy = dice.nextInt(floors); b.append("hall").append(blanks(1)).append(floors); }
        else {
          int from = crowd && dice.nextInt(3) != 0 ? busy : dice.nextInt(floors);
          int to = (from + 1 + dice.nextInt(floors - 1)) % floors;
          b.append(Model.WORDS.get(dice.nextInt(5))).append(blanks(1)).append(from).append(blanks(1)).append(to);
        }
      }
      b.append(blanks(0));
      return b.length() > 200 ? b.substring(0, 200) : b.toString();
    }

    String blanks(int least) { return " ".repeat(least + (dice.nextInt(12) == 0 ? 1 : 0)); }

    String spoilt(String text) {
      StringBuilder b = new StringBuilder(text);
      String signs = " ;0123789azhH.\t\u00e9";
      for (int i = dice.nextInt(3); i >= 0; i--) {
        int at = dice.nextInt(b.length() + 1);
        int pick = dice.nextInt(4);
        if (pick == 0) { b.insert(at, signs.charAt(dice.nextInt(signs.length()))); }
        else if (pick == 1) { b.setLength(at); }
        else if (at < b.length()) { if (pick == 2) { b.deleteCharAt(at); } else { b.setCharAt(at, signs.charAt(dice.nextInt(signs.length()))); } }
      }
      return b.toString();
    }

    /** A number that mostly fits, sometimes is just beside, and now and then is wild. */
    int about(int least, int most) {
      int pick = dice.nextInt(60);
      if (pick == 0) { return least - 1; }
      if (pick == 1) { return most + 1; }
      if (pick == 2) { return dice.nextBoolean() ? Integer.MAX_VALUE : Integer.MIN_VALUE; }
      return least + dice.nextInt(Math.max(1, most - least + 1));
    }

    int somebody() { return about(0, Math.max(0, model.count(1) - 1)); }
    int someCabin() { return about(0, 2 * model.count(0) - 1); }
    int someFloor() { return about(0, model.count(0) - 1); }
    int someNotes() { return about(0, 2); }
    int somePlace() { return about(0, dice.nextInt(4) == 0 ? 12 : 4); }

    void any() throws Exception {
      switch (dice.nextInt(40)) {
        case 0: call("write", dice.nextInt(20) == 0 ? about(0, 255) : "hall 5;room 2".charAt(dice.nextInt(13))); break;
        case 1: call("fault"); break;
        case 2: call("hall"); break;
        case 3: call("person", somebody(), about(0, 6)); break;
        case 4: call("cabin", someCabin(), about(0, 4)); break;
        case 5: call("as", somebody(), about(0, 5)); break;
        case 6: case 7: call("step", dice.nextInt(3) == 0 ? about(1, 12) : about(1, 2)); all(); break;
        case 8: call("shut", someCabin()); break;
        case 9: call("stairs", somebody()); break;
        case 10: case 11: for (int i = dice.nextInt(10) == 0 ? 9 : 0; i >= 0; i--) { call("undo"); } all(); break;
        case 12: call("keep", about(0, 1)); break;
        case 13: call("back", about(0, 1)); all(); break;
        case 14: call("behind", somebody(), about(0, dice.nextBoolean() ? 60 : 10), about(3, 5)); break;
        case 15: call("arrives", somebody()); break;
        case 16: call("all"); break;
        case 17: case 18: call("meet", somebody(), somebody()); break;
        case 19: call("jam", about(0, 1)); break;
        case 20: if (dice.nextInt(3) == 0) { call("order", about(-1, 5)); } break;
        case 21: call("dares", somebody(), about(0, 10), about(0, 8), about(0, 1)); break;
        case 22: case 23: sight(); break;
        case 24: if (dice.nextInt(3) == 0) { call("forget"); } break;
        case 25: call("kinds"); call("ask"); break;
        case 26: if (dice.nextInt(3) == 0) { call("notes", someNotes()); } break;
        case 27: case 28: case 29: case 30: { int what = about(0, 2); call("insert", someNotes(), somePlace(), what, thing(what)); break; }
        case 31: call("look", someNotes(), somePlace(), about(0, 2)); break;
        case 32: if (dice.nextInt(3) == 0) { call("cut", someNotes(), somePlace(), somePlace()); } break;
        case 33: call("turn", someNotes(), somePlace(), somePlace(), about(-20, 20)); break;
        case 34: call("reverse", someNotes(), somePlace(), somePlace()); break;
        case 35: case 38: case 39: call("paste", someNotes(), somePlace(), someNotes(), somePlace(), somePlace()); break;
        case 36: { int what = about(0, 2); call("often", someNotes(), what, thing(what)); break; }
        default:
          if (dice.nextInt(4) == 0) { call("drop", someNotes()); }
          call("count", about(0, 11));
      }
    }

    /** Whatever a change has moved is looked at, so that a slip shows where it happens. */
    void all() throws Exception {
      int what = dice.nextInt(8);
      if (what < 3) { call("count", 2 + dice.nextInt(5)); call("count", 10); }
      if (what == 3) { for (int p = 0; p < model.count(1); p++) { call("person", p, 3 + dice.nextInt(3)); } }
      if (what == 4) { for (int c = 0; c < 2 * model.count(0); c++) { call("cabin", c, dice.nextInt(5)); } }
      if (what == 5) { for (int n = 0; n < 3; n++) { for (int i = 0; i < 12 && agreed; i++) { if (model.look(n, i, 0) != -11) { call("look", n, i, dice.nextInt(3)); } } } }
    }

    void sight() throws Exception {
      int a = someFloor(), b = someFloor(), n = about(1, 60);
      int floors = model.count(0);
      if (dice.nextInt(4) != 0 && a >= 0 && a < floors && b >= 0 && b < floors && a != b) { n = Model.alone(floors, dice.nextInt(5), a, b); }
      call("seen", a, b, n);
    }

    int thing(int what) {
      if (what == 1) { return somebody(); }
      if (what == 2) { return about(0, 9); }
      return dice.nextBoolean() ? about(-3, 3) : about(-9999, 9999);
    }

    void call(String name, int... numbers) throws Exception {
      if (!agreed || calls >= CALLS) { return; }
      calls++;
      Object[] given = Arrays.stream(numbers).boxed().toArray();
      int want = (Integer) MODEL.get(name).invoke(model, given);
      int got = (Integer) PROGRAM.get(name).invoke(program, given);
      told.add(name + Arrays.toString(numbers) + " = " + got);
      reached.computeIfAbsent(name, n -> new TreeSet<>()).add(nameOf(want));
      if (got != want) {
        agreed = false;
        System.out.println("seed " + seed + ", call " + calls + ": " + name + Arrays.toString(numbers) + " answered " + got + ", the model says " + want);
        for (String line : told.subList(Math.max(0, told.size() - 160), told.size())) { System.out.println("    " + line); }
      }
    }
  }

  /** The document told a second time, with lists and copies and no care for speed. */
  public static final class Model {
    static final List<String> WORDS = List.of("plain", "timid", "bearer", "idler", "hasty");
    private static final int[] NODE = {1, 2, 3, 4, 5};
    private static final int[] PARENT = {0, 0, 1, 1, 0, 4};

    private static final class Guest {
      int kind, from, to, state, cabin = -1, ridden;
      Guest(int kind, int from, int to) { this.kind = kind; this.from = from; this.to = to; }
      Guest copy() { Guest g = new Guest(kind, from, to); g.state = state; g.cabin = cabin; g.ridden = ridden; return g; }
      int takes() { return kind == 2 ? 2 : 1; }
    }

    private static final class Inn {
      int floors = 4, room = 2, steps = 0;
      TreeSet<Integer> shut = new TreeSet<>();
      List<Guest> guests = new ArrayList<>();

      Inn copy() {
        Inn c = new Inn();
        c.floors = floors; c.room = room; c.steps = steps; c.shut.addAll(shut);
        for (Guest g : guests) { c.guests.add(g.copy()); }
        return c;
      }

      /** floor of each place round the ring, written out */
      List<Integer> ring() {
        List<Integer> r = new ArrayList<>();
        for (int f = 0; f < floors; f++) { r.add(f); }
        for (int f = floors - 1; f >= 0; f--) { r.add(f); }
        return r;
      }

      int place(int cabin) { int p = cabin; for (int s = 0; s < steps; s++) { p = p + 1 == 2 * floors ? 0 : p + 1; } return p; }

      int at(int floor, boolean up) {
        for (int c = 0; c < 2 * floors; c++) { int p = place(c); if (ring().get(p) == floor && (p < floors) == up) { return c; } }
        throw new IllegalStateException();
      }

      int left(int cabin) { int l = room; for (Guest g : guests) { if (g.state == 1 && g.cabin == cabin) { l -= g.takes(); } } return l; }
      int riders(int cabin) { int b = 0; for (int i = 0; i < guests.size(); i++) { if (guests.get(i).state == 1 && guests.get(i).cabin == cabin) { b |= 1 << i; } } return b; }

      List<Integer> looks(Guest g) {
        int up = at(g.from, true), down = at(g.from, false);
        boolean way = g.to > g.from;
        if (g.kind == 3) { return List.of(up, down); }
        if (g.kind == 4) { return way ? List.of(up, down) : List.of(down, up); }
        return List.of(way ? up : down);
      }

      int finds(Guest g) {
        for (int c : looks(g)) {
          if (!shut.contains(c) && left(c) >= g.takes() && (g.kind != 1 || riders(c) == 0)) { return c; }
        }
        return -1;
      }

      void step(List<Integer> line) {
        steps++;
        for (Guest g : guests) { if (g.state == 1) { g.ridden++; } }
        for (Guest g : guests) {
          if (g.state == 1 && ring().get(place(g.cabin)) == g.to && (g.kind != 3 || g.ridden >= 2 * floors)) { g.state = 2; g.cabin = -1; }
        }
        for (int i : line) {
          Guest g = guests.get(i);
          if (g.state != 0) { continue; }
          int c = finds(g);
          if (c >= 0) { g.state = 1; g.cabin = c; g.ridden = 0; }
        }
      }

      List<Integer> rising() { List<Integer> l = new ArrayList<>(); for (int i = 0; i < guests.size(); i++) { l.add(i); } return l; }
      int who(int state) { int b = 0; for (int i = 0; i < guests.size(); i++) { if (guests.get(i).state == state) { b |= 1 << i; } } return b; }

      /** the inn now and behind each of 60 steps */
      List<Inn> film(List<Integer> line) {
        List<Inn> f = new ArrayList<>();
        f.add(copy());
        for (int t = 1; t <= 60; t++) { Inn next = f.get(t - 1).copy(); next.step(line); f.add(next); }
        return f;
      }
    }

    private final StringBuilder text = new StringBuilder();
    private Inn told = new Inn(), now = new Inn(), draft;
    private int clauses;
    private final ArrayDeque<Inn> undone = new ArrayDeque<>();
    private final Inn[] kept = new Inn[2];
    private final List<int[]> seen = new ArrayList<>();
    private final List<List<String>> notes = new ArrayList<>(Arrays.asList(null, null, null));

    private boolean known(int p) { return p >= 0 && p < now.guests.size(); }
    private static boolean in(int v, int a, int b) { return a <= v && v <= b; }

    public int write(int letter) {
      if (!in(letter, 0, 255)) { return -3; }
      if (text.length() == 200) { return -5; }
      text.append((char) letter);
      return text.length();
    }
    public int erase() { int n = text.length(); text.setLength(0); return n; }

    public int fault() {
      List<String> tokens = new ArrayList<>();
      List<Integer> begins = new ArrayList<>();
      java.util.regex.Matcher m = java.util.regex.Pattern.compile("[a-z]+|[0-9]+|[^ ]", java.util.regex.Pattern.DOTALL).matcher(text);
      while (m.find()) { tokens.add(m.group()); begins.add(m.start()); }
      tokens.add("");
      begins.add(text.length());
      int bad = firstBad(tokens);
      return bad < 0 ? -1 : begins.get(bad);
    }

    private static int value(String token, int least, int most) {
      if (!token.matches("[0-9]{1,2}")) { return -1; }
      int v = Integer.parseInt(token);
      return in(v, least, most) ? v : -1;
    }

    private int firstBad(List<String> tokens) {
      draft = told.copy();
      clauses = 0;
      int at = 0;
      while (true) {
        String word = tokens.get(at);
        int top = draft.floors - 1;
        if (word.equals("hall") || word.equals("room") || word.equals("shut")) {
          at++;
          int v = word.equals("hall") ? value(tokens.get(at), 2, 7) : word.equals("room") ? value(tokens.get(at), 1, 4) : value(tokens.get(at), 0, 2 * top + 1);
          if (v < 0) { return at; }
          if (word.equals("hall")) { draft = new Inn(); draft.floors = v; }
          if (word.equals("room")) { draft.room = v; }
          if (word.equals("shut")) { draft.shut.add(v); }
        } else if (WORDS.contains(word) && draft.guests.size() < 8) {
          int a = value(tokens.get(at + 1), 0, top);
          if (a < 0) { return at + 1; }
          int b = value(tokens.get(at + 2), 0, top);
          if (b < 0 || b == a) { return at + 2; }
          draft.guests.add(new Guest(WORDS.indexOf(word), a, b));
          at += 2;
        } else { return at; }
        clauses++;
        at++;
        if (tokens.get(at).isEmpty()) { return -1; }
        if (!tokens.get(at).equals(";") || clauses == 24) { return at; }
        at++;
      }
    }

    public int hall() {
      if (fault() != -1) { return -4; }
      told = draft.copy();
      now = draft.copy();
      undone.clear();
      Arrays.fill(kept, null);
      seen.clear();
      Collections.fill(notes, null);
      text.setLength(0);
      return clauses;
    }

    private static int of(Guest g, int what) {
      return new int[] {g.kind, g.from, g.to, g.state, g.cabin, g.ridden, g.takes()}[what];
    }
    public int person(int p, int what) { return !known(p) ? -2 : !in(what, 0, 6) ? -3 : of(now.guests.get(p), what); }

    public int cabin(int c, int what) {
      if (!in(c, 0, 2 * now.floors - 1)) { return -2; }
      if (!in(what, 0, 4)) { return -3; }
      int place = now.place(c);
      return new int[] {now.shut.contains(c) ? 1 : 0, place, now.ring().get(place), now.riders(c), now.left(c)}[what];
    }

    public int as(int p, int kind) {
      if (!known(p)) { return -2; }
      if (!in(kind, 0, 5)) { return -3; }
      int node = NODE[now.guests.get(p).kind];
      while (node != kind && node != 0) { node = PARENT[node]; }
      return node == kind ? now.guests.get(p).takes() : -4;
    }

    private void remember() { undone.push(now.copy()); if (undone.size() > 8) { undone.removeLast(); } }

    public int step(int n) {
      if (!in(n, 1, 12)) { return -3; }
      if (now.steps + n > 999) { return -5; }
      remember();
      for (int i = 0; i < n; i++) { now.step(now.rising()); }
      return now.steps;
    }
    public int shut(int c) {
      if (!in(c, 0, 2 * now.floors - 1)) { return -2; }
      remember();
      if (now.shut.remove(c)) { return 0; }
      now.shut.add(c);
      return 1;
    }
    public int stairs(int p) {
      if (!known(p)) { return -2; }
      if (now.guests.get(p).state != 0) { return -4; }
      remember();
      now.guests.get(p).state = 2;
      return Integer.bitCount(now.who(0));
    }
    public int undo() { if (undone.isEmpty()) { return -4; } now = undone.pop(); return undone.size(); }
    public int keep(int k) { if (!in(k, 0, 1)) { return -2; } kept[k] = now.copy(); return now.steps; }
    public int back(int k) {
      if (!in(k, 0, 1)) { return -2; }
      if (kept[k] == null) { return -4; }
      now = kept[k].copy();
      undone.clear();
      return now.steps;
    }

    public int behind(int p, int n, int what) {
      if (!known(p)) { return -2; }
      if (!in(n, 0, 60) || !in(what, 3, 5)) { return -3; }
      return of(now.film(now.rising()).get(n).guests.get(p), what);
    }
    private static int arrival(List<Inn> film, int p) {
      for (int t = 0; t <= 60; t++) { if (film.get(t).guests.get(p).state == 2) { return t; } }
      return -1;
    }
    public int arrives(int p) { return known(p) ? arrival(now.film(now.rising()), p) : -2; }
    private static int last(Inn inn) {
      List<Inn> film = inn.film(inn.rising());
      for (int t = 0; t <= 60; t++) { if (film.get(t).who(2) == (1 << inn.guests.size()) - 1) { return t; } }
      return -1;
    }
    public int all() { return last(now); }
    public int meet(int p, int q) {
      if (!known(p) || !known(q) || p == q) { return -2; }
      List<Inn> film = now.film(now.rising());
      for (int t = 0; t <= 60; t++) {
        Guest a = film.get(t).guests.get(p), b = film.get(t).guests.get(q);
        if (a.state == 1 && b.state == 1 && a.cabin == b.cabin) { return t; }
      }
      return -1;
    }
    public int jam(int what) {
      if (!in(what, 0, 1)) { return -3; }
      int worst = -1, when = 0;
      for (int c = 2 * now.floors - 1; c >= 0; c--) {
        if (now.shut.contains(c)) { continue; }
        Inn other = now.copy();
        other.shut.add(c);
        int l = last(other) == -1 ? 1000 : last(other);
        if (worst == -1 || l >= when) { worst = c; when = l; }
      }
      return worst == -1 ? -1 : what == 0 ? worst : when == 1000 ? -1 : when;
    }
    public int order(int k) {
      if (!in(k, -1, 5)) { return -3; }
      List<Integer> waiting = new ArrayList<>();
      for (int i = 0; i < now.guests.size(); i++) { if (now.guests.get(i).state == 0) { waiting.add(i); } }
      if (waiting.size() > 6) { return -1; }
      List<Integer> best = new ArrayList<>();
      int least = tryAll(new ArrayList<>(), waiting, best, Integer.MAX_VALUE);
      return k == -1 ? least : k < best.size() ? best.get(k) : -1;
    }
    private int tryAll(List<Integer> line, List<Integer> rest, List<Integer> best, int least) {
      if (rest.isEmpty()) {
        int sum = together(line);
        if (sum < least) { best.clear(); best.addAll(line); return sum; }
        return least;
      }
      for (int p : rest) {
        List<Integer> longer = new ArrayList<>(line), fewer = new ArrayList<>(rest);
        longer.add(p);
        fewer.remove(Integer.valueOf(p));
        least = tryAll(longer, fewer, best, least);
      }
      return least;
    }
    private int together(List<Integer> line) {
      int[] when = new int[now.guests.size()];
      Arrays.fill(when, 61);
      Inn inn = now.copy();
      for (int t = 0; t <= 60; t++) {
        for (int p = 0; p < when.length; p++) { if (inn.guests.get(p).state == 2) { when[p] = Math.min(when[p], t); } }
        inn.step(line);
      }
      return Arrays.stream(when).sum();
    }
    public int dares(int p, int q, int n, int part) {
      if (!known(p)) { return -2; }
      if (!in(q, 0, 10) || !in(n, 0, 8) || !in(part, 0, 1)) { return -3; }
      Inn inn = now.copy();
      Guest g = new Guest(now.guests.get(p).kind, now.guests.get(p).from, now.guests.get(p).to);
      inn.guests.clear();
      inn.guests.add(g);
      BigInteger outside = BigInteger.ONE, inside = BigInteger.ZERO, all = BigInteger.ONE;
      for (int t = 0; t < n; t++) {
        inn.steps++;
        boolean could = inn.finds(g) >= 0;
        inside = inside.multiply(BigInteger.TEN).add(could ? outside.multiply(BigInteger.valueOf(10 - q)) : BigInteger.ZERO);
        outside = outside.multiply(BigInteger.valueOf(could ? q : 10));
        all = all.multiply(BigInteger.TEN);
      }
      return (part == 0 ? inside : all).divide(inside.gcd(all)).intValueExact();
    }

    public int seen(int a, int b, int n) {
      if (!in(a, 0, now.floors - 1) || !in(b, 0, now.floors - 1) || a == b || !in(n, 1, 60)) { return -3; }
      if (seen.size() == 6) { return -5; }
      seen.add(new int[] {a, b, n});
      return seen.size();
    }
    public int forget() { int n = seen.size(); seen.clear(); return n; }
    static int alone(int floors, int kind, int a, int b) {
      Inn inn = new Inn();
      inn.floors = floors;
      inn.room = 4;
      inn.guests.add(new Guest(kind, a, b));
      return arrival(inn.film(List.of(0)), 0);
    }
    public int kinds() {
      int bits = 0;
      for (int k = 0; k < 5; k++) {
        boolean fits = true;
        for (int[] s : seen) { fits &= alone(now.floors, k, s[0], s[1]) == s[2]; }
        bits |= fits ? 1 << k : 0;
      }
      return bits;
    }
    public int ask() {
      int kinds = kinds(), best = -1, size = 99;
      for (int a = now.floors - 1; a >= 0; a--) {
        for (int b = now.floors - 1; b >= 0; b--) {
          if (a == b) { continue; }
          Map<Integer, Integer> parts = new HashMap<>();
          for (int k = 0; k < 5; k++) { if ((kinds >> k & 1) == 1) { parts.merge(alone(now.floors, k, a, b), 1, Integer::sum); } }
          int greatest = parts.values().stream().mapToInt(x -> x).max().orElse(0);
          if (parts.size() > 1 && greatest <= size) { size = greatest; best = 10 * a + b; }
        }
      }
      return best;
    }

    private static final String SORTS = "npm";
    private int wrongThing(int n, int what, int v) {
      if (!in(n, 0, 2)) { return -2; }
      if (what == 1 && !known(v)) { return -2; }
      if (!in(what, 0, 2) || what == 0 && Math.abs((long) v) > 9999 || what == 2 && !in(v, 0, 9)) { return -3; }
      return notes.get(n) == null ? -11 : 0;
    }
    private int wrongSpan(int n, int i, int j) {
      if (!in(n, 0, 2)) { return -2; }
      if (notes.get(n) == null) { return -11; }
      if (i < 0 || j > notes.get(n).size()) { return -12; }
      return j < i ? -13 : 0;
    }
    public int notes(int n) { if (!in(n, 0, 2)) { return -2; } notes.set(n, new ArrayList<>()); return 0; }
    public int insert(int n, int i, int what, int v) {
      int wrong = wrongThing(n, what, v);
      if (wrong != 0) { return wrong; }
      List<String> row = notes.get(n);
      if (!in(i, 0, row.size())) { return -12; }
      if (row.size() == 12) { return -15; }
      row.add(i, SORTS.charAt(what) + "" + v);
      return row.size();
    }
    public int look(int n, int i, int what) {
      if (!in(n, 0, 2)) { return -2; }
      if (!in(what, 0, 2)) { return -3; }
      if (notes.get(n) == null) { return -11; }
      if (!in(i, 0, notes.get(n).size() - 1)) { return -12; }
      String thing = notes.get(n).get(i);
      if (thing.charAt(0) != SORTS.charAt(what)) { return -14; }
      return Integer.parseInt(thing.substring(1)) + (what == 0 ? 50000 : 0);
    }
    public int cut(int n, int i, int j) {
      int wrong = wrongSpan(n, i, j);
      if (wrong != 0) { return wrong; }
      notes.get(n).subList(i, j).clear();
      return notes.get(n).size();
    }
    public int turn(int n, int i, int j, int d) {
      if (!in(n, 0, 2)) { return -2; }
      if (!in(d, -20, 20)) { return -3; }
      int wrong = wrongSpan(n, i, j);
      if (wrong != 0) { return wrong; }
      Collections.rotate(notes.get(n).subList(i, j), d);
      return j - i;
    }
    public int reverse(int n, int i, int j) {
      int wrong = wrongSpan(n, i, j);
      if (wrong != 0) { return wrong; }
      Collections.reverse(notes.get(n).subList(i, j));
      return j - i;
    }
    public int paste(int to, int k, int from, int i, int j) {
      if (!in(to, 0, 2) || !in(from, 0, 2)) { return -2; }
      List<String> into = notes.get(to), out = notes.get(from);
      if (into == null || out == null) { return -11; }
      if (i < 0 || j > out.size() || !in(k, 0, into.size())) { return -12; }
      if (j < i) { return -13; }
      if (into.size() + j - i > 12) { return -15; }
      into.addAll(k, new ArrayList<>(out.subList(i, j)));
      return into.size();
    }
    public int often(int n, int what, int v) {
      int wrong = wrongThing(n, what, v);
      return wrong != 0 ? wrong : Collections.frequency(notes.get(n), SORTS.charAt(what) + "" + v);
    }
    public int drop(int n) {
      if (!in(n, 0, 2)) { return -2; }
      if (notes.get(n) == null) { return -11; }
      return notes.set(n, null).size();
    }
    public int count(int what) {
      int bits = 0, things = 0;
      for (int c : now.shut) { bits |= 1 << c; }
      for (List<String> row : notes) { things += row == null ? 0 : row.size(); }
      int[] told = {now.floors, now.guests.size(), now.steps, now.who(0), now.who(1), now.who(2), bits, now.room, seen.size(), things, undone.size(), text.length()};
      return in(what, 0, 11) ? told[what] : -3;
    }
  }
}
