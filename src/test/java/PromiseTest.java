import java.util.ArrayList;
import java.util.List;

/** Each promise of the document by itself: what is ordinary, the edges, and what is refused. The answers were worked out by hand. */
public final class PromiseTest {
  private static final int NONE = -1, UNKNOWN = -2, OUTSIDE = -3, NOT = -4, FULL = -5, NULL = -11, INDEX = -12, ORDER = -13, CAST = -14, ROOM = -15;
  private static final int[] WILD = {Integer.MIN_VALUE, -1000, -1, 1000, Integer.MAX_VALUE};
  private static int wrong = 0;
  private static int promise = 0;

  private static void due(String call, int got, int want) {
    if (got != want) {
      wrong++;
      System.out.println("promise " + promise + ": " + call + " answered " + got + ", due is " + want);
    }
  }

  private static void spell(PaternosterRide x, String text) {
    for (char c : text.toCharArray()) { x.write(c); }
  }

  private static PaternosterRide told(String text) {
    PaternosterRide x = new PaternosterRide();
    spell(x, text);
    int answer = x.hall();
    if (answer < 1) { due("hall() of " + text, answer, 1); }
    return x;
  }

  /** All that can be looked at without a change, but for what takes long to find. */
  private static List<Integer> picture(PaternosterRide x) {
    List<Integer> p = new ArrayList<>();
    for (int what = 0; what < 12; what++) { p.add(x.count(what)); }
    for (int person = 0; person < 8; person++) { for (int what = 0; what < 7; what++) { p.add(x.person(person, what)); } }
    for (int cabin = 0; cabin < 14; cabin++) { for (int what = 0; what < 5; what++) { p.add(x.cabin(cabin, what)); } }
    for (int n = 0; n < 3; n++) { for (int i = 0; i < 12; i++) { for (int what = 0; what < 3; what++) { p.add(x.look(n, i, what)); } } }
    p.add(x.kinds());
    p.add(x.fault());
    return p;
  }

  /** The answer to a refused call, and that nothing has changed by it. */
  private static void refused(PaternosterRide x, String call, List<Integer> before, int got, int want) {
    due(call, got, want);
    if (!picture(x).equals(before)) { wrong++; System.out.println("promise " + promise + ": " + call + " changed something"); }
  }

  public static void main(String[] args) {
    newObject(); write(); erase(); fault(); hall(); hallForgets(); person(); cabin(); as();
    step(); stepsByKind(); stepsInNarrowCabins(); shut(); stairs(); undo(); keepAndBack();
    behind(); arrives(); all(); meet(); jam(); order(); dares(); asFarAsCanBeForetold(); aWholeTurnOff();
    seen(); forget(); kinds(); ask();
    notes(); insert(); look(); cut(); turn(); reverse(); paste(); often(); drop(); count();
    System.out.println(wrong == 0 ? "all promises hold" : wrong + " answers are not as due");
    if (wrong != 0) { System.exit(1); }
  }

  private static void newObject() {
    promise = 1;
    PaternosterRide x = new PaternosterRide();
    int[] counts = {4, 0, 0, 0, 0, 0, 0, 2, 0, 0, 0, 0};
    for (int what = 0; what < 12; what++) { due("count(" + what + ")", x.count(what), counts[what]); }
    int[] floors = {0, 1, 2, 3, 3, 2, 1, 0};
    for (int c = 0; c < 8; c++) {
      due("cabin(" + c + ", 0)", x.cabin(c, 0), 0);
      due("cabin(" + c + ", 1)", x.cabin(c, 1), c);
      due("cabin(" + c + ", 2)", x.cabin(c, 2), floors[c]);
      due("cabin(" + c + ", 3)", x.cabin(c, 3), 0);
      due("cabin(" + c + ", 4)", x.cabin(c, 4), 2);
    }
    due("cabin(8, 0)", x.cabin(8, 0), UNKNOWN);
    due("person(0, 0)", x.person(0, 0), UNKNOWN);
    due("undo()", x.undo(), NOT);
    due("back(0)", x.back(0), NOT);
    due("back(1)", x.back(1), NOT);
    for (int n = 0; n < 3; n++) { due("drop(" + n + ")", x.drop(n), NULL); }
    due("fault()", x.fault(), 0);
    due("kinds()", x.kinds(), 31);
  }

  private static void write() {
    promise = 2;
    PaternosterRide x = new PaternosterRide();
    List<Integer> before = picture(x);
    for (int letter : WILD) { refused(x, "write(" + letter + ")", before, x.write(letter), OUTSIDE); }
    refused(x, "write(256)", before, x.write(256), OUTSIDE);
    due("write(0)", x.write(0), 1);
    due("write(255)", x.write(255), 2);
    for (int i = 3; i <= 200; i++) { due("write(97)", x.write(97), i); }
    before = picture(x);
    refused(x, "write(97) when full", before, x.write(97), FULL);
    refused(x, "write(256) when full", before, x.write(256), OUTSIDE);
    due("count(11)", x.count(11), 200);
  }

  private static void erase() {
    promise = 3;
    PaternosterRide x = new PaternosterRide();
    due("erase()", x.erase(), 0);
    spell(x, "hall 3");
    due("erase()", x.erase(), 6);
    due("count(11)", x.count(11), 0);
    due("erase()", x.erase(), 0);
    for (int i = 0; i < 200; i++) { x.write('a'); }
    due("erase() when full", x.erase(), 200);
    due("write(97)", x.write(97), 1);
  }

  private static void faultOf(String text, int want) {
    PaternosterRide x = new PaternosterRide();
    spell(x, text);
    due("fault() of '" + text + "'", x.fault(), want);
    due("fault() of '" + text + "' again", x.fault(), want);
    due("count(11)", x.count(11), text.length());
    due("count(1)", x.count(1), 0);
  }

  private static void fault() {
    promise = 4;
    faultOf("", 0);
    faultOf("   ", 3);
    faultOf("hall 2", NONE);
    faultOf("hall 7", NONE);
    faultOf("hall 07", NONE);
    faultOf("  hall   5  ", NONE);
    faultOf("hall5;room3", NONE);
    faultOf("hall 5 ; room 3", NONE);
    faultOf("hall 1", 5);
    faultOf("hall 8", 5);
    faultOf("hall 007", 5);
    faultOf("hall 12", 5);
    faultOf("hall", 4);
    faultOf("hall  ", 6);
    faultOf("hall x", 5);
    faultOf("hall ;", 5);
    faultOf("hall 3;", 7);
    faultOf("hall 3; ", 8);
    faultOf("hall 3;;", 7);
    faultOf(";hall 3", 0);
    faultOf("hall 3 4", 7);
    faultOf("hall 3 room 2", 7);
    faultOf("hall 3x", 6);
    faultOf("hall 3.", 6);
    faultOf("Hall 3", 0);
    faultOf("hAll 3", 0);
    faultOf("halls 3", 0);
    faultOf("hal 3", 0);
    faultOf("hall\t3", 4);
    faultOf("hall 3;lift 2", 7);
    faultOf("hall -3", 5);
    faultOf("3", 0);
    faultOf("\u00e9", 0);
    faultOf("room 1", NONE);
    faultOf("room 4", NONE);
    faultOf("room 0", 5);
    faultOf("room 5", 5);
    faultOf("shut 0", NONE);
    faultOf("shut 7", NONE);
    faultOf("shut 8", 5);
    faultOf("hall 7;shut 13", NONE);
    faultOf("hall 7;shut 14", 12);
    faultOf("hall 2;shut 4", 12);
    faultOf("shut 7;hall 2", NONE);
    for (String word : new String[] {"plain", "timid", "bearer", "idler", "hasty"}) {
      int at = word.length() + 1;
      faultOf(word + " 0 3", NONE);
      faultOf(word + " 3 0", NONE);
      faultOf(word + " 4 0", at);
      faultOf(word + " 0 4", at + 2);
      faultOf(word + " 2 2", at + 2);
      faultOf(word + " 2 02", at + 2);
      faultOf(word + " 03", at + 2);
      faultOf(word + " 0;", at + 1);
      faultOf(word + " 0", at + 1);
      faultOf(word + " 0 3 1", at + 4);
    }
    StringBuilder eight = new StringBuilder("plain 0 1");
    for (int i = 1; i < 8; i++) { eight.append(";hasty 1 0"); }
    faultOf(eight.toString(), NONE);
    faultOf(eight + ";idler 0 1", eight.length() + 1);
    faultOf(eight + ";idler 9 9", eight.length() + 1);
    faultOf(eight + ";room 3;idler 0 1", eight.length() + 8);
    faultOf(eight + ";hall 3;idler 0 1", NONE);
    StringBuilder most = new StringBuilder("room 1");
    for (int i = 1; i < 24; i++) { most.append(";room 2"); }
    faultOf(most.toString(), NONE);
    faultOf(most + ";", most.length());
    faultOf(most + ";room 3", most.length());
    faultOf(most + " room 3", most.length() + 1);
    PaternosterRide x = told(eight.toString());
    spell(x, "shut 1;timid 0 1");
    due("fault() of a ninth in a later text", x.fault(), 7);
    faultOf("hall 3" + " ".repeat(194), NONE);
    faultOf("hall" + " ".repeat(196), 200);
    faultOf(" ".repeat(196) + "shut", 200);
    faultOf(" ".repeat(200), 200);
    x = new PaternosterRide();
    spell(x, "shut 0");
    x.erase();
    spell(x, "shut ");
    due("fault() of a text that is shorter than the last one", x.fault(), 5);
    x = told("hall 7");
    spell(x, "plain 6 0;shut 13");
    due("fault() by the floors of an earlier text", x.fault(), NONE);
  }

  private static void hall() {
    promise = 5;
    PaternosterRide x = new PaternosterRide();
    List<Integer> before = picture(x);
    refused(x, "hall() of nothing", before, x.hall(), NOT);
    spell(x, "hall 5;plain 0 5");
    before = picture(x);
    refused(x, "hall() of a fault", before, x.hall(), NOT);
    due("count(11)", x.count(11), 16);
    x.erase();
    spell(x, "hall 5;room 3;shut 9;shut 2;shut 9;bearer 4 1;idler 0 2");
    due("hall()", x.hall(), 7);
    int[] counts = {5, 2, 0, 3, 0, 0, 0x204, 3, 0, 0, 0, 0};
    for (int what = 0; what < 12; what++) { due("count(" + what + ")", x.count(what), counts[what]); }
    spell(x, "timid 1 0;shut 0;room 4");
    due("hall() of a later text", x.hall(), 3);
    int[] later = {5, 3, 0, 7, 0, 0, 0x205, 4, 0, 0, 0, 0};
    for (int what = 0; what < 12; what++) { due("count(" + what + ")", x.count(what), later[what]); }
    due("person(2, 0)", x.person(2, 0), 1);
    due("person(0, 0)", x.person(0, 0), 2);
    spell(x, "room 1;plain 0 1;shut 3;hall 3;hasty 2 1");
    due("hall() with a hall in it", x.hall(), 5);
    int[] afresh = {3, 1, 0, 1, 0, 0, 0, 2, 0, 0, 0, 0};
    for (int what = 0; what < 12; what++) { due("count(" + what + ")", x.count(what), afresh[what]); }
    due("person(0, 0)", x.person(0, 0), 4);
    StringBuilder most = new StringBuilder("room 1");
    for (int i = 1; i < 24; i++) { most.append(";room ").append(1 + i % 4); }
    spell(x, most.toString());
    due("hall() of 24", x.hall(), 24);
    due("count(7)", x.count(7), 4);
  }

  private static void hallForgets() {
    PaternosterRide x = told("hall 3;plain 0 2;plain 1 0;shut 1");
    x.step(3);
    x.shut(1);
    x.shut(2);
    x.keep(0);
    x.keep(1);
    x.seen(0, 1, 2);
    x.notes(0);
    x.notes(2);
    x.insert(2, 0, 1, 1);
    spell(x, "room 3");
    due("hall()", x.hall(), 1);
    int[] counts = {3, 2, 0, 3, 0, 0, 2, 3, 0, 0, 0, 0};
    for (int what = 0; what < 12; what++) { due("count(" + what + ")", x.count(what), counts[what]); }
    due("person(0, 3)", x.person(0, 3), 0);
    due("person(0, 4)", x.person(0, 4), NONE);
    due("person(0, 5)", x.person(0, 5), 0);
    due("person(1, 5)", x.person(1, 5), 0);
    due("cabin(0, 1)", x.cabin(0, 1), 0);
    due("undo()", x.undo(), NOT);
    due("back(0)", x.back(0), NOT);
    due("back(1)", x.back(1), NOT);
    for (int n = 0; n < 3; n++) { due("drop(" + n + ")", x.drop(n), NULL); }
    due("kinds()", x.kinds(), 31);
  }

  private static void person() {
    promise = 6;
    PaternosterRide x = told("hall 4;plain 0 3;bearer 3 1;timid 2 1;idler 1 2;hasty 2 0");
    int[][] told = {{0, 0, 3}, {2, 3, 1}, {1, 2, 1}, {3, 1, 2}, {4, 2, 0}};
    for (int p = 0; p < 5; p++) {
      for (int what = 0; what < 3; what++) { due("person(" + p + ", " + what + ")", x.person(p, what), told[p][what]); }
      due("person(" + p + ", 3)", x.person(p, 3), 0);
      due("person(" + p + ", 4)", x.person(p, 4), NONE);
      due("person(" + p + ", 5)", x.person(p, 5), 0);
      due("person(" + p + ", 6)", x.person(p, 6), p == 1 ? 2 : 1);
    }
    x.step(1);
    due("person(0, 3) riding", x.person(0, 3), 1);
    due("person(0, 4) riding", x.person(0, 4), 7);
    due("person(0, 5) riding", x.person(0, 5), 0);
    x.step(2);
    due("person(0, 5) behind 3", x.person(0, 5), 2);
    x.step(1);
    due("person(0, 3) there", x.person(0, 3), 2);
    due("person(0, 4) there", x.person(0, 4), NONE);
    due("person(0, 5) there", x.person(0, 5), 3);
    x.step(9);
    due("person(0, 5) long there", x.person(0, 5), 3);
    List<Integer> before = picture(x);
    for (int p : WILD) { refused(x, "person(" + p + ", 0)", before, x.person(p, 0), UNKNOWN); }
    due("person(5, 0)", x.person(5, 0), UNKNOWN);
    due("person(5, 7)", x.person(5, 7), UNKNOWN);
    for (int what : WILD) { refused(x, "person(0, " + what + ")", before, x.person(0, what), OUTSIDE); }
    due("person(0, 7)", x.person(0, 7), OUTSIDE);
  }

  private static void cabin() {
    promise = 7;
    PaternosterRide x = told("hall 3;room 3;plain 0 2;bearer 0 1;shut 1");
    x.step(1);
    due("cabin(5, 0)", x.cabin(5, 0), 0);
    due("cabin(1, 0)", x.cabin(1, 0), 1);
    int[] places = {1, 2, 3, 4, 5, 0};
    int[] floors = {1, 2, 2, 1, 0, 0};
    for (int c = 0; c < 6; c++) {
      due("cabin(" + c + ", 1)", x.cabin(c, 1), places[c]);
      due("cabin(" + c + ", 2)", x.cabin(c, 2), floors[c]);
      due("cabin(" + c + ", 3)", x.cabin(c, 3), c == 5 ? 3 : 0);
      due("cabin(" + c + ", 4)", x.cabin(c, 4), c == 5 ? 0 : 3);
    }
    x.step(1);
    due("cabin(5, 3)", x.cabin(5, 3), 1);
    due("cabin(5, 4)", x.cabin(5, 4), 2);
    List<Integer> before = picture(x);
    for (int c : WILD) { refused(x, "cabin(" + c + ", 0)", before, x.cabin(c, 0), UNKNOWN); }
    due("cabin(6, 9)", x.cabin(6, 9), UNKNOWN);
    for (int what : WILD) { refused(x, "cabin(0, " + what + ")", before, x.cabin(0, what), OUTSIDE); }
    due("cabin(5, 5)", x.cabin(5, 5), OUTSIDE);
    due("cabin(13, 1) of 7 floors", told("hall 7").cabin(13, 1), 13);
    due("cabin(14, 1) of 7 floors", told("hall 7").cabin(14, 1), UNKNOWN);
  }

  private static void as() {
    promise = 8;
    PaternosterRide x = told("plain 0 1;timid 0 1;bearer 0 1;idler 0 1;hasty 0 1");
    int[][] due = {
      {1, 1, NOT, NOT, NOT, NOT},
      {1, 1, 1, NOT, NOT, NOT},
      {2, 2, NOT, 2, NOT, NOT},
      {1, NOT, NOT, NOT, 1, NOT},
      {1, NOT, NOT, NOT, 1, 1}};
    for (int p = 0; p < 5; p++) { for (int k = 0; k < 6; k++) { due("as(" + p + ", " + k + ")", x.as(p, k), due[p][k]); } }
    List<Integer> before = picture(x);
    for (int p : WILD) { refused(x, "as(" + p + ", 9)", before, x.as(p, 9), UNKNOWN); }
    due("as(5, 0)", x.as(5, 0), UNKNOWN);
    for (int k : WILD) { refused(x, "as(0, " + k + ")", before, x.as(0, k), OUTSIDE); }
    due("as(0, 6)", x.as(0, 6), OUTSIDE);
  }

  private static void step() {
    promise = 9;
    PaternosterRide x = told("hall 3;plain 0 2");
    List<Integer> before = picture(x);
    for (int n : WILD) { refused(x, "step(" + n + ")", before, x.step(n), OUTSIDE); }
    refused(x, "step(0)", before, x.step(0), OUTSIDE);
    refused(x, "step(13)", before, x.step(13), OUTSIDE);
    due("step(1)", x.step(1), 1);
    due("step(12)", x.step(12), 13);
    due("count(10)", x.count(10), 2);
    for (int i = 2; i <= 82; i++) { due("step(12)", x.step(12), 1 + 12 * i); }
    due("count(2)", x.count(2), 985);
    due("step(12)", x.step(12), 997);
    before = picture(x);
    refused(x, "step(3) to 1000", before, x.step(3), FULL);
    refused(x, "step(13) near the end", before, x.step(13), OUTSIDE);
    due("step(2)", x.step(2), 999);
    before = picture(x);
    refused(x, "step(1) at 999", before, x.step(1), FULL);
    due("cabin(0, 1) behind 999", x.cabin(0, 1), 3);
    due("cabin(5, 1) behind 999", x.cabin(5, 1), 2);
  }

  private static void rides(String text, int steps, int person, int state, int cabin, int ridden) {
    PaternosterRide x = told(text);
    for (int i = 0; i < steps; i++) { x.step(1); }
    due(text + ": person(" + person + ", 3) behind " + steps, x.person(person, 3), state);
    due(text + ": person(" + person + ", 4) behind " + steps, x.person(person, 4), cabin);
    due(text + ": person(" + person + ", 5) behind " + steps, x.person(person, 5), ridden);
  }

  private static void stepsByKind() {
    for (String kind : new String[] {"plain", "timid", "bearer"}) {
      rides("hall 4;" + kind + " 0 3", 1, 0, 1, 7, 0);
      rides("hall 4;" + kind + " 0 3", 3, 0, 1, 7, 2);
      rides("hall 4;" + kind + " 0 3", 4, 0, 2, NONE, 3);
      rides("hall 4;" + kind + " 3 1", 1, 0, 1, 3, 0);
      rides("hall 4;" + kind + " 3 1", 3, 0, 2, NONE, 2);
      rides("hall 4;" + kind + " 0 3;shut 7", 1, 0, 0, NONE, 0);
      rides("hall 4;" + kind + " 0 3;shut 7", 2, 0, 1, 6, 0);
      rides("hall 4;" + kind + " 1 0;shut 5", 1, 0, 0, NONE, 0);
    }
    rides("hall 2;idler 0 1", 1, 0, 1, 3, 0);
    rides("hall 2;idler 0 1", 5, 0, 1, 3, 4);
    rides("hall 2;idler 0 1", 6, 0, 2, NONE, 5);
    rides("hall 3;idler 2 0", 1, 0, 1, 1, 0);
    rides("hall 3;idler 2 0", 9, 0, 1, 1, 8);
    rides("hall 3;idler 2 0", 10, 0, 2, NONE, 9);
    rides("hall 3;idler 2 0;shut 1", 1, 0, 1, 2, 0);
    rides("hall 3;idler 2 0;shut 1", 9, 0, 2, NONE, 8);
    rides("hall 3;idler 2 0;shut 1;shut 2", 1, 0, 0, NONE, 0);
    rides("hall 3;hasty 1 0", 1, 0, 1, 3, 0);
    rides("hall 3;hasty 1 0", 2, 0, 2, NONE, 1);
    rides("hall 3;hasty 1 0;shut 3", 1, 0, 1, 0, 0);
    rides("hall 3;hasty 1 0;shut 3", 4, 0, 1, 0, 3);
    rides("hall 3;hasty 1 0;shut 3", 5, 0, 2, NONE, 4);
    rides("hall 3;hasty 1 2", 1, 0, 1, 0, 0);
    rides("hall 3;hasty 1 2;shut 0", 1, 0, 1, 3, 0);
    rides("hall 7;plain 6 0", 1, 0, 1, 6, 0);
    rides("hall 7;plain 6 0", 7, 0, 2, NONE, 6);
  }

  private static void stepsInNarrowCabins() {
    rides("hall 4;plain 0 1;timid 0 1", 1, 1, 0, NONE, 0);
    rides("hall 4;plain 0 1;timid 0 1", 2, 1, 1, 6, 0);
    rides("hall 4;timid 0 1;plain 0 1", 1, 1, 1, 7, 0);
    rides("hall 4;bearer 0 1;plain 0 1", 1, 1, 0, NONE, 0);
    rides("hall 4;bearer 0 1;plain 0 1", 2, 1, 1, 6, 0);
    rides("hall 4;room 3;bearer 0 1;plain 0 1", 1, 1, 1, 7, 0);
    rides("hall 4;room 2;plain 0 1;bearer 0 1", 1, 1, 0, NONE, 0);
    rides("hall 4;room 1;bearer 0 1", 12, 0, 0, NONE, 0);
    rides("hall 4;room 1;plain 1 2;hasty 1 2", 1, 1, 1, 5, 0);
    rides("hall 4;room 1;plain 1 2;idler 1 2", 1, 1, 1, 5, 0);
    rides("hall 4;room 1;plain 1 2;plain 1 2", 1, 1, 0, NONE, 0);
    // Who gets out makes room for who waits there, in the same step.
    rides("hall 4;room 1;plain 0 1;timid 1 3;shut 0", 2, 1, 1, 7, 0);
    rides("hall 4;room 1;plain 0 2;timid 1 3;shut 0", 2, 1, 0, NONE, 0);
  }

  private static void shut() {
    promise = 10;
    PaternosterRide x = told("hall 4;plain 0 3;shut 2");
    due("shut(2)", x.shut(2), 0);
    due("count(6)", x.count(6), 0);
    due("shut(2)", x.shut(2), 1);
    due("shut(0)", x.shut(0), 1);
    due("count(6)", x.count(6), 5);
    due("count(10)", x.count(10), 3);
    List<Integer> before = picture(x);
    for (int c : WILD) { refused(x, "shut(" + c + ")", before, x.shut(c), UNKNOWN); }
    refused(x, "shut(8)", before, x.shut(8), UNKNOWN);
    due("shut(7)", x.shut(7), 1);
    x.step(1);
    due("person(0, 3)", x.person(0, 3), 0);
    x.step(1);
    due("shut(6) with one in it", x.shut(6), 1);
    due("person(0, 4)", x.person(0, 4), 6);
    x.step(3);
    due("person(0, 3)", x.person(0, 3), 2);
  }

  private static void stairs() {
    promise = 11;
    PaternosterRide x = told("hall 4;plain 0 3;plain 3 0;plain 2 1");
    due("stairs(1)", x.stairs(1), 2);
    due("person(1, 3)", x.person(1, 3), 2);
    due("person(1, 4)", x.person(1, 4), NONE);
    due("person(1, 5)", x.person(1, 5), 0);
    due("count(5)", x.count(5), 2);
    due("count(10)", x.count(10), 1);
    List<Integer> before = picture(x);
    refused(x, "stairs(1) of one there", before, x.stairs(1), NOT);
    for (int p : WILD) { refused(x, "stairs(" + p + ")", before, x.stairs(p), UNKNOWN); }
    refused(x, "stairs(3)", before, x.stairs(3), UNKNOWN);
    x.step(1);
    before = picture(x);
    refused(x, "stairs(0) of one who rides", before, x.stairs(0), NOT);
    x.undo();
    due("stairs(0)", x.stairs(0), 1);
    due("stairs(2)", x.stairs(2), 0);
  }

  private static void undo() {
    promise = 12;
    PaternosterRide x = told("hall 4;plain 0 3;plain 3 0;idler 2 1");
    List<List<Integer>> pictures = new ArrayList<>();
    pictures.add(picture(x));
    x.stairs(1); pictures.add(picture(x));
    x.step(1); pictures.add(picture(x));
    x.shut(3); pictures.add(picture(x));
    x.step(12); pictures.add(picture(x));
    for (int i = 3; i >= 0; i--) {
      due("undo()", x.undo(), i);
      if (!picture(x).equals(pictures.get(i))) { due("what is there behind undo " + i, 1, 0); }
    }
    refused(x, "undo() of nothing", pictures.get(0), x.undo(), NOT);
    for (int i = 1; i <= 11; i++) { x.step(1); due("count(10)", x.count(10), Math.min(i, 8)); }
    for (int i = 7; i >= 0; i--) { due("undo()", x.undo(), i); due("count(2)", x.count(2), 3 + i); }
    due("undo() of a ninth", x.undo(), NOT);
    due("count(2)", x.count(2), 3);
    x.step(5);
    x.step(0);
    x.shut(99);
    x.stairs(99);
    due("undo() behind refused ones", x.undo(), 0);
    due("count(2)", x.count(2), 3);
    x.seen(0, 1, 2);
    x.notes(0);
    x.write('a');
    x.step(1);
    x.undo();
    due("count(8) stays", x.count(8), 1);
    due("count(11) stays", x.count(11), 1);
    due("drop(0)", x.drop(0), 0);
  }

  private static void keepAndBack() {
    promise = 13;
    PaternosterRide x = told("hall 4;plain 0 3;plain 3 0;idler 2 1;shut 0");
    List<Integer> before = picture(x);
    for (int k : WILD) { refused(x, "keep(" + k + ")", before, x.keep(k), UNKNOWN); }
    refused(x, "keep(2)", before, x.keep(2), UNKNOWN);
    promise = 14;
    for (int k : WILD) { refused(x, "back(" + k + ")", before, x.back(k), UNKNOWN); }
    refused(x, "back(2)", before, x.back(2), UNKNOWN);
    refused(x, "back(0)", before, x.back(0), NOT);
    promise = 13;
    due("keep(1)", x.keep(1), 0);
    promise = 14;
    refused(x, "back(0) with 1 kept", before, x.back(0), NOT);
    promise = 13;
    x.step(2);
    x.shut(5);
    List<Integer> first = picture(x);
    due("keep(0)", x.keep(0), 2);
    due("count(10) is as it was", x.count(10), 2);
    x.stairs(0);
    x.step(9);
    promise = 14;
    due("back(0)", x.back(0), 2);
    due("count(10)", x.count(10), 0);
    due("undo()", x.undo(), NOT);
    first.set(10, 0);
    if (!picture(x).equals(first)) { due("what is there behind back(0)", 1, 0); }
    x.step(7);
    due("back(0) again", x.back(0), 2);
    due("back(1)", x.back(1), 0);
    if (!picture(x).equals(before)) { due("what is there behind back(1)", 1, 0); }
    promise = 13;
    x.step(4);
    due("keep(1) anew", x.keep(1), 4);
    x.step(4);
    promise = 14;
    due("back(1)", x.back(1), 4);
    x.seen(0, 1, 2);
    x.notes(1);
    x.write('z');
    due("back(0)", x.back(0), 2);
    due("count(8) stays", x.count(8), 1);
    due("count(11) stays", x.count(11), 1);
    due("notes stay", x.drop(1), 0);
    due("keep(0) for a new text", x.keep(0), 2);
    x.erase();
    spell(x, "room 3");
    x.hall();
    due("back(0) behind a text", x.back(0), NOT);
    due("back(1) behind a text", x.back(1), NOT);
  }

  private static void behind() {
    promise = 15;
    PaternosterRide x = told("hall 4;plain 0 3");
    List<Integer> before = picture(x);
    int[][] due = {{0, NONE, 0}, {1, 7, 0}, {1, 7, 1}, {1, 7, 2}, {2, NONE, 3}};
    for (int n = 0; n < 5; n++) { for (int what = 3; what < 6; what++) { due("behind(0, " + n + ", " + what + ")", x.behind(0, n, what), due[n][what - 3]); } }
    due("behind(0, 60, 5)", x.behind(0, 60, 5), 3);
    for (int p : WILD) { refused(x, "behind(" + p + ", 0, 3)", before, x.behind(p, 0, 3), UNKNOWN); }
    refused(x, "behind(1, 99, 9)", before, x.behind(1, 99, 9), UNKNOWN);
    for (int n : WILD) { refused(x, "behind(0, " + n + ", 3)", before, x.behind(0, n, 3), OUTSIDE); }
    refused(x, "behind(0, 61, 3)", before, x.behind(0, 61, 3), OUTSIDE);
    refused(x, "behind(0, 0, 2)", before, x.behind(0, 0, 2), OUTSIDE);
    refused(x, "behind(0, 0, 6)", before, x.behind(0, 0, 6), OUTSIDE);
    x.step(2);
    due("behind(0, 1, 5)", x.behind(0, 1, 5), 2);
    due("behind(0, 2, 3)", x.behind(0, 2, 3), 2);
  }

  private static void arrives() {
    promise = 16;
    PaternosterRide x = told("hall 4;plain 0 3;idler 0 3;timid 0 1;bearer 3 0;hasty 2 1;plain 0 1");
    List<Integer> before = picture(x);
    // 0 and 1 fill the first cabin, so that 2 and 5 have the next one together.
    int[] due = {4, 12, 3, 4, 2, 3};
    for (int p = 0; p < 6; p++) { refused(x, "arrives(" + p + ")", before, x.arrives(p), due[p]); }
    for (int p : WILD) { refused(x, "arrives(" + p + ")", before, x.arrives(p), UNKNOWN); }
    refused(x, "arrives(6)", before, x.arrives(6), UNKNOWN);
    x.step(1);
    due("arrives(0) from 1", x.arrives(0), 3);
    x.step(3);
    due("arrives(0) there", x.arrives(0), 0);
    due("arrives(0), never", told("room 1;bearer 0 1").arrives(0), NONE);
    x = told("room 1;bearer 0 1;plain 0 1");
    due("arrives(1)", x.arrives(1), 2);
    x.stairs(0);
    due("arrives(0) by the stairs", x.arrives(0), 0);
    for (int i = 0; i < 83; i++) { x.step(12); }
    x.step(3);
    due("arrives(1) at 999", x.arrives(1), 0);
    x = told("hall 2;plain 0 1");
    for (int c = 0; c < 4; c++) { x.shut(c); }
    for (int i = 0; i < 83; i++) { x.step(12); }
    x.step(3);
    for (int c = 0; c < 4; c++) { x.shut(c); }
    due("arrives(0), foretold beyond 999", x.arrives(0), 2);
  }

  private static void all() {
    promise = 17;
    due("all() of nobody", new PaternosterRide().all(), 0);
    PaternosterRide x = told("hall 4;plain 0 3;idler 0 3");
    List<Integer> before = picture(x);
    refused(x, "all()", before, x.all(), 12);
    x.step(2);
    due("all() from 2", x.all(), 10);
    x.step(10);
    due("all() there", x.all(), 0);
    due("all(), never", told("room 1;bearer 0 1;plain 0 1").all(), NONE);
  }

  private static void meet() {
    promise = 18;
    PaternosterRide x = told("hall 4;plain 0 3;plain 1 2;plain 2 0;timid 1 2");
    List<Integer> before = picture(x);
    // 0 is in 7 from 1 on, 1 is in 0 from 1 on: 7 is at floor 1 when 1 has gone.
    refused(x, "meet(0, 1)", before, x.meet(0, 1), NONE);
    refused(x, "meet(2, 0)", before, x.meet(2, 0), NONE);
    refused(x, "meet(1, 1)", before, x.meet(1, 1), UNKNOWN);
    refused(x, "meet(0, 4)", before, x.meet(0, 4), UNKNOWN);
    for (int p : WILD) { refused(x, "meet(" + p + ", 0)", before, x.meet(p, 0), UNKNOWN); refused(x, "meet(0, " + p + ")", before, x.meet(0, p), UNKNOWN); }
    x = told("hall 4;plain 0 3;plain 1 2;shut 0");
    due("meet(0, 1) behind 2", x.meet(0, 1), 2);
    due("meet(1, 0) behind 2", x.meet(1, 0), 2);
    x.step(2);
    due("meet(0, 1) now", x.meet(0, 1), 0);
    x.step(1);
    due("meet(0, 1) when one is there", x.meet(0, 1), NONE);
    x = told("plain 0 1;plain 0 1");
    x.stairs(0);
    x.stairs(1);
    due("meet(0, 1) of two that are there", x.meet(0, 1), NONE);
    // The hasty one rides down in 2, into which the plain one, whose first one is shut, steps behind 2.
    due("meet(0, 1) when one has just got out", told("hall 3;hasty 2 1;plain 1 0;shut 3").meet(0, 1), NONE);
    due("meet(0, 1) going down", told("hall 3;hasty 2 0;plain 1 0;shut 3").meet(0, 1), 2);
  }

  private static void jam() {
    promise = 19;
    PaternosterRide x = told("hall 2;plain 0 1");
    List<Integer> before = picture(x);
    refused(x, "jam(0)", before, x.jam(0), 3);
    refused(x, "jam(1)", before, x.jam(1), 3);
    for (int what : WILD) { refused(x, "jam(" + what + ")", before, x.jam(what), OUTSIDE); }
    refused(x, "jam(2)", before, x.jam(2), OUTSIDE);
    x.shut(3);
    due("jam(0) with 3 shut", x.jam(0), 2);
    due("jam(1) with 3 shut", x.jam(1), 4);
    x.shut(2);
    x.shut(1);
    due("jam(0), never", x.jam(0), 0);
    due("jam(1), never", x.jam(1), NONE);
    x.shut(0);
    due("jam(0), all shut", x.jam(0), NONE);
    due("jam(1), all shut", x.jam(1), NONE);
    due("jam(2), all shut", x.jam(2), OUTSIDE);
    x = new PaternosterRide();
    due("jam(0) of nobody", x.jam(0), 0);
    due("jam(1) of nobody", x.jam(1), 0);
    x.shut(0);
    due("jam(0) of nobody with 0 shut", x.jam(0), 1);
    x = told("room 1;bearer 0 1;shut 0;shut 1");
    due("jam(0), never anyhow", x.jam(0), 2);
    due("jam(1), never anyhow", x.jam(1), NONE);
    x = told("hall 4;plain 0 3");
    x.step(1);
    due("jam(0) of one who rides", x.jam(0), 0);
    due("jam(1) of one who rides", x.jam(1), 3);
  }

  private static void order() {
    promise = 20;
    PaternosterRide x = told("hall 4;plain 0 1;timid 0 1");
    List<Integer> before = picture(x);
    int[] due = {4, 1, 0, NONE, NONE, NONE, NONE};
    for (int k = -1; k < 6; k++) { refused(x, "order(" + k + ")", before, x.order(k), due[k + 1]); }
    for (int k : new int[] {Integer.MIN_VALUE, -2, 6, Integer.MAX_VALUE}) { refused(x, "order(" + k + ")", before, x.order(k), OUTSIDE); }
    x.stairs(1);
    due("order(-1) behind stairs", x.order(-1), 2);
    due("order(0) behind stairs", x.order(0), 0);
    due("order(1) behind stairs", x.order(1), NONE);
    x.undo();
    due("order(-1) undone", x.order(-1), 4);
    x.shut(7);
    due("order(-1) with 7 shut", x.order(-1), 6);
    x.keep(0);
    x.shut(6);
    due("order(-1) with 6 shut too", x.order(-1), 8);
    x.back(0);
    due("order(-1) behind back", x.order(-1), 6);
    spell(x, "hall 2;room 1;bearer 0 1");
    x.hall();
    due("order(-1), never", x.order(-1), 61);
    due("order(0), never", x.order(0), 0);
    x = told("hall 4;plain 0 3;plain 0 2");
    x.step(1);
    due("order(-1) of those who ride", x.order(-1), 5);
    due("order(0) of those who ride", x.order(0), NONE);
    due("order(-1) of nobody", new PaternosterRide().order(-1), 0);
    x = told("hall 2;plain 0 1;plain 0 1;plain 0 1;plain 1 0;plain 1 0;plain 1 0;plain 0 1");
    due("order(-1) of seven", x.order(-1), NONE);
    due("order(0) of seven", x.order(0), NONE);
    due("order(6) of seven", x.order(6), OUTSIDE);
    x.stairs(2);
    // On either floor two go at once and one behind them: 2 2 3 and 2 2 3.
    due("order(-1) of six", x.order(-1), 14);
    int[] six = {0, 1, 3, 4, 5, 6};
    for (int k = 0; k < 6; k++) { due("order(" + k + ") of six", x.order(k), six[k]); }
    // Who goes far keeps nobody waiting longer than who goes near; the timid one first lets all in.
    x = told("hall 5;room 3;plain 0 1;plain 0 4;timid 0 2");
    due("order(-1)", x.order(-1), 2 + 5 + 3);
    due("order(0)", x.order(0), 2);
    due("order(1)", x.order(1), 0);
    due("order(2)", x.order(2), 1);
  }

  /** A house in which one cabin alone is open. */
  private static PaternosterRide oneOpen(String text, int open) {
    PaternosterRide x = told(text);
    for (int c = 0; c < 2 * x.count(0); c++) { if (c != open) { x.shut(c); } }
    return x;
  }

  private static void asFarAsCanBeForetold() {
    // Cabin 2 of 14 is at floor 0, going up, behind 12, 26, 40, 54, and at floor 6 six steps farther; cabin 1 a step later.
    String four = "hall 7;room 1;plain 0 6;plain 0 6;plain 0 6;plain 0 6";
    PaternosterRide x = oneOpen(four, 2), y = oneOpen(four, 1);
    promise = 15;
    due("behind(3, 59, 3)", x.behind(3, 59, 3), 1);
    due("behind(3, 60, 3)", x.behind(3, 60, 3), 2);
    due("behind(3, 60, 3), a step later", y.behind(3, 60, 3), 1);
    promise = 16;
    for (int p = 0; p < 4; p++) { due("arrives(" + p + ")", x.arrives(p), 18 + 14 * p); }
    due("arrives(2), a step later", y.arrives(2), 47);
    due("arrives(3), a step later", y.arrives(3), NONE);
    promise = 17;
    due("all() behind 60", x.all(), 60);
    due("all() behind 61", y.all(), NONE);
    promise = 19;
    due("jam(0) with one open", x.jam(0), 2);
    due("jam(1) with one open", x.jam(1), NONE);
    promise = 20;
    due("order(-1) behind 60", x.order(-1), 18 + 32 + 46 + 60);
    due("order(-1) behind 61", y.order(-1), 19 + 33 + 47 + 61);
    promise = 18;
    // Four bearers fill the cabin by turns; the two plain ones get in at the fifth, behind 60 or 61.
    String six = "hall 7;bearer 0 6;bearer 0 6;bearer 0 6;bearer 0 6;plain 0 6;plain 0 6";
    due("meet(4, 5) behind 60", oneOpen(six, 10).meet(4, 5), 60);
    due("meet(4, 5) behind 61", oneOpen(six, 9).meet(4, 5), NONE);
    promise = 19;
    // Of the two open ones 12 comes first, so that without it all three wait for the later one.
    PaternosterRide z = oneOpen("hall 7;room 1;plain 0 6;plain 0 6;plain 0 6", 2);
    z.shut(12);
    due("jam(0) with two open", z.jam(0), 12);
    due("jam(1) with two open", z.jam(1), 46);
  }

  private static void aWholeTurnOff() {
    promise = 20;
    // Cabin 0 of 4 has just gone, and comes back behind 4.
    due("order(-1) of one", oneOpen("hall 2;plain 0 1", 0).order(-1), 5);
    PaternosterRide x = oneOpen("hall 2;room 1;plain 0 1;plain 0 1", 0);
    due("order(-1) of two", x.order(-1), 5 + 9);
    x = oneOpen("hall 2;room 1;plain 0 1;bearer 0 1;plain 0 1", 0);
    due("order(-1) of two and one who never", x.order(-1), 5 + 9 + 61);
    due("order(0)", x.order(0), 0);
    due("order(1)", x.order(1), 1);
    due("order(2)", x.order(2), 2);
  }

  private static void odds(PaternosterRide x, int person, int q, int n, int above, int below) {
    List<Integer> before = picture(x);
    refused(x, "dares(" + person + ", " + q + ", " + n + ", 0)", before, x.dares(person, q, n, 0), above);
    refused(x, "dares(" + person + ", " + q + ", " + n + ", 1)", before, x.dares(person, q, n, 1), below);
  }

  private static void dares() {
    promise = 21;
    PaternosterRide x = told("hall 2;plain 0 1;shut 3");
    odds(x, 0, 5, 0, 0, 1);
    odds(x, 0, 5, 1, 0, 1);
    odds(x, 0, 5, 2, 1, 2);
    odds(x, 0, 5, 3, 3, 4);
    odds(x, 0, 5, 4, 7, 8);
    odds(x, 0, 5, 5, 7, 8);
    odds(x, 0, 5, 6, 15, 16);
    odds(x, 0, 0, 1, 0, 1);
    odds(x, 0, 0, 2, 1, 1);
    odds(x, 0, 10, 8, 0, 1);
    odds(x, 0, 4, 3, 21, 25);
    x.stairs(0);
    odds(x, 0, 5, 2, 1, 2);
    x.step(1);
    odds(x, 0, 5, 1, 1, 2);
    x = told("hall 2;room 1;plain 0 1;plain 0 1;bearer 0 1;idler 0 1;hasty 1 0;timid 0 1");
    odds(x, 0, 3, 8, 99993439, 100000000);
    odds(x, 1, 2, 1, 4, 5);
    odds(x, 5, 2, 1, 4, 5);
    odds(x, 2, 2, 8, 0, 1);
    x.step(1);
    odds(x, 1, 2, 1, 4, 5);
    odds(x, 0, 2, 1, 4, 5);
    x = told("hall 2;idler 0 1;hasty 0 1;shut 3");
    odds(x, 0, 5, 1, 1, 2);
    odds(x, 1, 5, 1, 1, 2);
    odds(x, 0, 5, 2, 3, 4);
    List<Integer> before = picture(x);
    for (int v : WILD) {
      refused(x, "dares(" + v + ", 0, 0, 0)", before, x.dares(v, 0, 0, 0), UNKNOWN);
      refused(x, "dares(0, " + v + ", 0, 0)", before, x.dares(0, v, 0, 0), OUTSIDE);
      refused(x, "dares(0, 0, " + v + ", 0)", before, x.dares(0, 0, v, 0), OUTSIDE);
      refused(x, "dares(0, 0, 0, " + v + ")", before, x.dares(0, 0, 0, v), OUTSIDE);
    }
    refused(x, "dares(2, 11, 9, 2)", before, x.dares(2, 11, 9, 2), UNKNOWN);
    refused(x, "dares(0, 11, 8, 1)", before, x.dares(0, 11, 8, 1), OUTSIDE);
    refused(x, "dares(0, 10, 9, 1)", before, x.dares(0, 10, 9, 1), OUTSIDE);
    refused(x, "dares(0, 10, 8, 2)", before, x.dares(0, 10, 8, 2), OUTSIDE);
  }

  private static void seen() {
    promise = 22;
    PaternosterRide x = told("hall 3");
    List<Integer> before = picture(x);
    for (int v : WILD) {
      refused(x, "seen(" + v + ", 0, 1)", before, x.seen(v, 0, 1), OUTSIDE);
      refused(x, "seen(0, " + v + ", 1)", before, x.seen(0, v, 1), OUTSIDE);
      refused(x, "seen(0, 1, " + v + ")", before, x.seen(0, 1, v), OUTSIDE);
    }
    refused(x, "seen(3, 0, 1)", before, x.seen(3, 0, 1), OUTSIDE);
    refused(x, "seen(0, 3, 1)", before, x.seen(0, 3, 1), OUTSIDE);
    refused(x, "seen(2, 2, 1)", before, x.seen(2, 2, 1), OUTSIDE);
    refused(x, "seen(0, 1, 0)", before, x.seen(0, 1, 0), OUTSIDE);
    refused(x, "seen(0, 1, 61)", before, x.seen(0, 1, 61), OUTSIDE);
    due("seen(0, 2, 60)", x.seen(0, 2, 60), 1);
    for (int i = 2; i <= 6; i++) { due("seen(2, 0, 1)", x.seen(2, 0, 1), i); }
    before = picture(x);
    refused(x, "seen(2, 0, 1) when full", before, x.seen(2, 0, 1), FULL);
    refused(x, "seen(2, 2, 1) when full", before, x.seen(2, 2, 1), OUTSIDE);
    due("count(8)", x.count(8), 6);
  }

  private static void forget() {
    promise = 23;
    PaternosterRide x = new PaternosterRide();
    due("forget()", x.forget(), 0);
    for (int i = 0; i < 7; i++) { x.seen(0, 1, 9); }
    due("forget()", x.forget(), 6);
    due("forget()", x.forget(), 0);
    due("kinds()", x.kinds(), 31);
    due("seen(0, 1, 2)", x.seen(0, 1, 2), 1);
    due("kinds()", x.kinds(), 23);
  }

  private static void kinds() {
    promise = 24;
    PaternosterRide x = told("hall 4;room 1;shut 0;shut 1;shut 2;shut 3;shut 4;shut 5;shut 6;shut 7;bearer 0 1");
    due("kinds()", x.kinds(), 31);
    x.step(3);
    x.seen(0, 3, 4);
    due("kinds() of one who took 4", x.kinds(), 23);
    x.seen(3, 1, 3);
    due("kinds() of one who took 3 down", x.kinds(), 23);
    x.seen(3, 0, 13);
    due("kinds() of contradictions", x.kinds(), 0);
    x.forget();
    x.seen(3, 0, 13);
    due("kinds() of the idler down", x.kinds(), 8);
    x.seen(0, 3, 12);
    due("kinds() of the idler up", x.kinds(), 8);
    x.seen(2, 1, 13);
    due("kinds() of the idler over the top", x.kinds(), 8);
    x.seen(1, 0, 15);
    due("kinds() of the idler right round", x.kinds(), 8);
    x.forget();
    x.seen(0, 1, 11);
    due("kinds() of nobody", x.kinds(), 0);
    x = told("hall 7");
    x.seen(6, 0, 7);
    due("kinds() of 7 floors", x.kinds(), 23);
    x.forget();
    x.seen(1, 0, 27);
    due("kinds() of 7 floors, idler", x.kinds(), 8);
  }

  private static void ask() {
    promise = 25;
    PaternosterRide x = told("hall 4;room 1;shut 7;bearer 0 1");
    List<Integer> before = picture(x);
    refused(x, "ask()", before, x.ask(), 1);
    x.seen(0, 3, 4);
    due("ask() of those who are alike", x.ask(), NONE);
    x.forget();
    x.seen(0, 3, 12);
    due("ask() of one", x.ask(), NONE);
    x.seen(0, 3, 4);
    due("ask() of none", x.ask(), NONE);
    x.forget();
    due("ask()", x.ask(), 1);
    due("ask() of 2 floors", told("hall 2").ask(), 1);
    due("ask() of 7 floors", told("hall 7").ask(), 1);
  }

  private static PaternosterRide withNumbers(int... numbers) {
    PaternosterRide x = told("hall 3;plain 0 1;plain 1 0");
    x.notes(1);
    for (int i = 0; i < numbers.length; i++) { x.insert(1, i, 0, numbers[i]); }
    return x;
  }

  private static void row(PaternosterRide x, String call, int notes, int... numbers) {
    for (int i = 0; i < numbers.length; i++) { due("place " + i + " behind " + call, x.look(notes, i, 0), numbers[i] + 50000); }
    due("the end behind " + call, x.look(notes, numbers.length, 0), INDEX);
  }

  private static void notes() {
    promise = 26;
    PaternosterRide x = new PaternosterRide();
    List<Integer> before = picture(x);
    for (int n : WILD) { refused(x, "notes(" + n + ")", before, x.notes(n), UNKNOWN); }
    refused(x, "notes(3)", before, x.notes(3), UNKNOWN);
    for (int n = 0; n < 3; n++) { due("notes(" + n + ")", x.notes(n), 0); due("look", x.look(n, 0, 0), INDEX); }
    x.insert(1, 0, 0, 7);
    x.insert(2, 0, 0, 8);
    due("notes(1) anew", x.notes(1), 0);
    due("look(1, 0, 0)", x.look(1, 0, 0), INDEX);
    due("look(2, 0, 0)", x.look(2, 0, 0), 50008);
    due("count(9)", x.count(9), 1);
  }

  private static void insert() {
    promise = 27;
    PaternosterRide x = told("hall 3;plain 0 1;plain 1 0");
    List<Integer> before = picture(x);
    refused(x, "insert(0, 0, 0, 1) of missing ones", before, x.insert(0, 0, 0, 1), NULL);
    refused(x, "insert(0, 9, 0, 1) of missing ones", before, x.insert(0, 9, 0, 1), NULL);
    refused(x, "insert(0, 0, 3, 1) of missing ones", before, x.insert(0, 0, 3, 1), OUTSIDE);
    refused(x, "insert(0, 0, 1, 2) of missing ones", before, x.insert(0, 0, 1, 2), UNKNOWN);
    x.notes(0);
    before = picture(x);
    for (int v : WILD) {
      refused(x, "insert(" + v + ", 0, 0, 1)", before, x.insert(v, 0, 0, 1), UNKNOWN);
      refused(x, "insert(0, " + v + ", 0, 1)", before, x.insert(0, v, 0, 1), INDEX);
      refused(x, "insert(0, 0, " + v + ", 1)", before, x.insert(0, 0, v, 1), OUTSIDE);
      refused(x, "insert(0, 0, 1, " + v + ")", before, x.insert(0, 0, 1, v), UNKNOWN);
      refused(x, "insert(0, 0, 2, " + v + ")", before, x.insert(0, 0, 2, v), OUTSIDE);
    }
    refused(x, "insert(3, 9, 3, 1)", before, x.insert(3, 9, 3, 1), UNKNOWN);
    refused(x, "insert(0, 1, 0, 1)", before, x.insert(0, 1, 0, 1), INDEX);
    refused(x, "insert(0, 0, 0, 10000)", before, x.insert(0, 0, 0, 10000), OUTSIDE);
    refused(x, "insert(0, 0, 0, -10000)", before, x.insert(0, 0, 0, -10000), OUTSIDE);
    refused(x, "insert(0, 0, 2, 10)", before, x.insert(0, 0, 2, 10), OUTSIDE);
    due("insert(0, 0, 0, 9999)", x.insert(0, 0, 0, 9999), 1);
    due("insert(0, 1, 0, -9999)", x.insert(0, 1, 0, -9999), 2);
    due("insert(0, 1, 1, 1)", x.insert(0, 1, 1, 1), 3);
    due("insert(0, 0, 2, 9)", x.insert(0, 0, 2, 9), 4);
    due("insert(0, 4, 1, 0)", x.insert(0, 4, 1, 0), 5);
    due("look(0, 0, 2)", x.look(0, 0, 2), 9);
    due("look(0, 1, 0)", x.look(0, 1, 0), 59999);
    due("look(0, 2, 1)", x.look(0, 2, 1), 1);
    due("look(0, 3, 0)", x.look(0, 3, 0), 40001);
    due("look(0, 4, 1)", x.look(0, 4, 1), 0);
    for (int i = 6; i <= 12; i++) { due("insert(0, 0, 2, 0)", x.insert(0, 0, 2, 0), i); }
    before = picture(x);
    refused(x, "insert(0, 12, 0, 1) when full", before, x.insert(0, 12, 0, 1), ROOM);
    refused(x, "insert(0, 0, 0, 1) when full", before, x.insert(0, 0, 0, 1), ROOM);
    refused(x, "insert(0, 13, 0, 1) when full", before, x.insert(0, 13, 0, 1), INDEX);
    refused(x, "insert(0, -1, 0, 1) when full", before, x.insert(0, -1, 0, 1), INDEX);
  }

  private static void look() {
    promise = 28;
    PaternosterRide x = told("hall 3;plain 0 1;plain 1 0");
    due("look(0, 0, 0)", x.look(0, 0, 0), NULL);
    due("look(0, 0, 3)", x.look(0, 0, 3), OUTSIDE);
    due("look(3, 0, 3)", x.look(3, 0, 3), UNKNOWN);
    x.notes(0);
    x.insert(0, 0, 0, 1);
    x.insert(0, 1, 1, 1);
    x.insert(0, 2, 2, 1);
    List<Integer> before = picture(x);
    int[] due = {50001, 1, 1};
    for (int i = 0; i < 3; i++) { for (int what = 0; what < 3; what++) { refused(x, "look(0, " + i + ", " + what + ")", before, x.look(0, i, what), i == what ? due[i] : CAST); } }
    due("look(0, 3, 0)", x.look(0, 3, 0), INDEX);
    for (int v : WILD) {
      refused(x, "look(" + v + ", 0, 0)", before, x.look(v, 0, 0), UNKNOWN);
      refused(x, "look(0, " + v + ", 0)", before, x.look(0, v, 0), INDEX);
      refused(x, "look(0, 0, " + v + ")", before, x.look(0, 0, v), OUTSIDE);
    }
  }

  /** What cut(), turn() and reverse() refuse alike, by i and j, of NOTES 1 with four things. */
  private static void spans(PaternosterRide x, String name) {
    int[][] due = {{-1, 2, INDEX}, {0, 5, INDEX}, {-1, -2, INDEX}, {5, 5, INDEX}, {5, 4, ORDER}, {2, 1, ORDER}, {1, -1, ORDER}, {0, -1, ORDER},
      {Integer.MIN_VALUE, Integer.MAX_VALUE, INDEX}, {Integer.MAX_VALUE, Integer.MIN_VALUE, ORDER}, {Integer.MIN_VALUE, 0, INDEX}, {0, Integer.MAX_VALUE, INDEX}};
    List<Integer> before = picture(x);
    for (int[] d : due) { refused(x, name + " from " + d[0] + " to " + d[1], before, span(x, name, 1, d[0], d[1]), d[2]); }
    for (int n : WILD) { refused(x, name + " of " + n, before, span(x, name, n, -1, 99), UNKNOWN); }
    refused(x, name + " of 3", before, span(x, name, 3, 0, 0), UNKNOWN);
    refused(x, name + " of missing ones", before, span(x, name, 0, -1, 99), NULL);
  }

  private static int span(PaternosterRide x, String name, int notes, int i, int j) {
    return name.equals("cut") ? x.cut(notes, i, j) : name.equals("turn") ? x.turn(notes, i, j, 1) : x.reverse(notes, i, j);
  }

  private static void cut() {
    promise = 29;
    spans(withNumbers(1, 2, 3, 4), "cut");
    PaternosterRide x = withNumbers(1, 2, 3, 4, 5, 6);
    due("cut(1, 1, 3)", x.cut(1, 1, 3), 4);
    row(x, "cut(1, 1, 3)", 1, 1, 4, 5, 6);
    due("cut(1, 2, 2)", x.cut(1, 2, 2), 4);
    due("cut(1, 4, 4)", x.cut(1, 4, 4), 4);
    row(x, "cut(1, 4, 4)", 1, 1, 4, 5, 6);
    due("cut(1, 3, 4)", x.cut(1, 3, 4), 3);
    row(x, "cut(1, 3, 4)", 1, 1, 4, 5);
    due("cut(1, 0, 3)", x.cut(1, 0, 3), 0);
    due("cut(1, 0, 0)", x.cut(1, 0, 0), 0);
    due("cut(1, 0, 1)", x.cut(1, 0, 1), INDEX);
  }

  private static void turn() {
    promise = 30;
    spans(withNumbers(1, 2, 3, 4), "turn");
    PaternosterRide x = withNumbers(1, 2, 3, 4, 5);
    due("turn(1, 0, 5, 2)", x.turn(1, 0, 5, 2), 5);
    row(x, "turn(1, 0, 5, 2)", 1, 4, 5, 1, 2, 3);
    due("turn(1, 0, 5, -2)", x.turn(1, 0, 5, -2), 5);
    row(x, "turn(1, 0, 5, -2)", 1, 1, 2, 3, 4, 5);
    due("turn(1, 1, 4, 1)", x.turn(1, 1, 4, 1), 3);
    row(x, "turn(1, 1, 4, 1)", 1, 1, 4, 2, 3, 5);
    due("turn(1, 1, 4, 20)", x.turn(1, 1, 4, 20), 3);
    row(x, "turn(1, 1, 4, 20)", 1, 1, 2, 3, 4, 5);
    due("turn(1, 0, 3, -20)", x.turn(1, 0, 3, -20), 3);
    row(x, "turn(1, 0, 3, -20)", 1, 3, 1, 2, 4, 5);
    due("turn(1, 0, 5, 0)", x.turn(1, 0, 5, 0), 5);
    due("turn(1, 0, 5, 15)", x.turn(1, 0, 5, 15), 5);
    due("turn(1, 5, 5, 7)", x.turn(1, 5, 5, 7), 0);
    due("turn(1, 2, 3, 7)", x.turn(1, 2, 3, 7), 1);
    row(x, "turns that change nothing", 1, 3, 1, 2, 4, 5);
    List<Integer> before = picture(x);
    for (int d : new int[] {Integer.MIN_VALUE, -1000, 1000, Integer.MAX_VALUE}) { refused(x, "turn(1, 9, 0, " + d + ")", before, x.turn(1, 9, 0, d), OUTSIDE); }
    refused(x, "turn(1, 0, 5, 21)", before, x.turn(1, 0, 5, 21), OUTSIDE);
    refused(x, "turn(1, 0, 5, -21)", before, x.turn(1, 0, 5, -21), OUTSIDE);
    refused(x, "turn(0, 0, 0, 21)", before, x.turn(0, 0, 0, 21), OUTSIDE);
    refused(x, "turn(3, 0, 0, 21)", before, x.turn(3, 0, 0, 21), UNKNOWN);
  }

  private static void reverse() {
    promise = 31;
    spans(withNumbers(1, 2, 3, 4), "reverse");
    PaternosterRide x = withNumbers(1, 2, 3, 4, 5);
    due("reverse(1, 0, 5)", x.reverse(1, 0, 5), 5);
    row(x, "reverse(1, 0, 5)", 1, 5, 4, 3, 2, 1);
    due("reverse(1, 1, 3)", x.reverse(1, 1, 3), 2);
    row(x, "reverse(1, 1, 3)", 1, 5, 3, 4, 2, 1);
    due("reverse(1, 3, 4)", x.reverse(1, 3, 4), 1);
    due("reverse(1, 5, 5)", x.reverse(1, 5, 5), 0);
    row(x, "reverse(1, 5, 5)", 1, 5, 3, 4, 2, 1);
  }

  private static void paste() {
    promise = 32;
    PaternosterRide x = withNumbers(1, 2, 3, 4);
    x.notes(2);
    due("paste(2, 0, 1, 1, 3)", x.paste(2, 0, 1, 1, 3), 2);
    row(x, "paste(2, 0, 1, 1, 3)", 2, 2, 3);
    due("paste(2, 1, 1, 0, 4)", x.paste(2, 1, 1, 0, 4), 6);
    row(x, "paste(2, 1, 1, 0, 4)", 2, 2, 1, 2, 3, 4, 3);
    row(x, "a paste elsewhere", 1, 1, 2, 3, 4);
    due("paste(1, 2, 1, 1, 4)", x.paste(1, 2, 1, 1, 4), 7);
    row(x, "paste(1, 2, 1, 1, 4)", 1, 1, 2, 2, 3, 4, 3, 4);
    due("paste(1, 0, 1, 0, 2)", x.paste(1, 0, 1, 0, 2), 9);
    row(x, "paste(1, 0, 1, 0, 2)", 1, 1, 2, 1, 2, 2, 3, 4, 3, 4);
    due("paste(1, 9, 1, 9, 9)", x.paste(1, 9, 1, 9, 9), 9);
    List<Integer> before = picture(x);
    for (int v : WILD) {
      refused(x, "paste(" + v + ", 0, 1, 0, 0)", before, x.paste(v, 0, 1, 0, 0), UNKNOWN);
      refused(x, "paste(1, 0, " + v + ", 0, 0)", before, x.paste(1, 0, v, 0, 0), UNKNOWN);
      refused(x, "paste(2, " + v + ", 1, 0, 0)", before, x.paste(2, v, 1, 0, 0), INDEX);
    }
    refused(x, "paste(3, 0, 0, 0, 0)", before, x.paste(3, 0, 0, 0, 0), UNKNOWN);
    refused(x, "paste(0, 0, 3, 0, 0)", before, x.paste(0, 0, 3, 0, 0), UNKNOWN);
    refused(x, "paste(0, -1, 1, -1, 99)", before, x.paste(0, -1, 1, -1, 99), NULL);
    refused(x, "paste(1, -1, 0, -1, 99)", before, x.paste(1, -1, 0, -1, 99), NULL);
    refused(x, "paste(2, 7, 1, 0, 0)", before, x.paste(2, 7, 1, 0, 0), INDEX);
    refused(x, "paste(2, 0, 1, -1, 0)", before, x.paste(2, 0, 1, -1, 0), INDEX);
    refused(x, "paste(2, 0, 1, 0, 10)", before, x.paste(2, 0, 1, 0, 10), INDEX);
    refused(x, "paste(2, 7, 1, 2, 1)", before, x.paste(2, 7, 1, 2, 1), INDEX);
    refused(x, "paste(2, 0, 1, 2, 1)", before, x.paste(2, 0, 1, 2, 1), ORDER);
    refused(x, "paste(2, 0, 1, 10, 9)", before, x.paste(2, 0, 1, 10, 9), ORDER);
    refused(x, "paste(2, 0, 1, 0, -1)", before, x.paste(2, 0, 1, 0, -1), ORDER);
    refused(x, "paste(2, 0, 1, MAX, MIN)", before, x.paste(2, 0, 1, Integer.MAX_VALUE, Integer.MIN_VALUE), ORDER);
    refused(x, "paste(2, 0, 1, 0, 7)", before, x.paste(2, 0, 1, 0, 7), ROOM);
    refused(x, "paste(1, 0, 1, 0, 4)", before, x.paste(1, 0, 1, 0, 4), ROOM);
    due("paste(2, 6, 1, 0, 6)", x.paste(2, 6, 1, 0, 6), 12);
    row(x, "paste(2, 6, 1, 0, 6)", 2, 2, 1, 2, 3, 4, 3, 1, 2, 1, 2, 2, 3);
    due("paste(2, 12, 1, 3, 3) of nothing when full", x.paste(2, 12, 1, 3, 3), 12);
    due("paste(2, 12, 1, 3, 4) when full", x.paste(2, 12, 1, 3, 4), ROOM);
    due("paste(2, 13, 1, 3, 4) when full", x.paste(2, 13, 1, 3, 4), INDEX);
    x.notes(0);
    x.insert(0, 0, 1, 1);
    x.insert(0, 1, 2, 5);
    x.notes(1);
    due("paste(1, 0, 0, 0, 2)", x.paste(1, 0, 0, 0, 2), 2);
    due("look(1, 0, 1)", x.look(1, 0, 1), 1);
    due("look(1, 1, 2)", x.look(1, 1, 2), 5);
  }

  private static void often() {
    promise = 33;
    PaternosterRide x = withNumbers(1, 0, 1, -1);
    x.insert(1, 0, 1, 1);
    x.insert(1, 0, 2, 1);
    x.insert(1, 3, 2, 1);
    x.insert(1, 3, 2, 1);
    List<Integer> before = picture(x);
    refused(x, "often(1, 0, 1)", before, x.often(1, 0, 1), 2);
    due("often(1, 0, 0)", x.often(1, 0, 0), 1);
    due("often(1, 0, -1)", x.often(1, 0, -1), 1);
    due("often(1, 0, 9999)", x.often(1, 0, 9999), 0);
    due("often(1, 1, 1)", x.often(1, 1, 1), 1);
    due("often(1, 1, 0)", x.often(1, 1, 0), 0);
    due("often(1, 2, 1)", x.often(1, 2, 1), 3);
    due("often(1, 2, 9)", x.often(1, 2, 9), 0);
    for (int v : WILD) {
      refused(x, "often(" + v + ", 0, 0)", before, x.often(v, 0, 0), UNKNOWN);
      refused(x, "often(1, " + v + ", 0)", before, x.often(1, v, 0), OUTSIDE);
      refused(x, "often(1, 1, " + v + ")", before, x.often(1, 1, v), UNKNOWN);
      refused(x, "often(1, 2, " + v + ")", before, x.often(1, 2, v), OUTSIDE);
    }
    refused(x, "often(3, 3, 0)", before, x.often(3, 3, 0), UNKNOWN);
    refused(x, "often(1, 1, 2)", before, x.often(1, 1, 2), UNKNOWN);
    refused(x, "often(1, 0, 10000)", before, x.often(1, 0, 10000), OUTSIDE);
    refused(x, "often(1, 0, -10000)", before, x.often(1, 0, -10000), OUTSIDE);
    refused(x, "often(1, 2, 10)", before, x.often(1, 2, 10), OUTSIDE);
    refused(x, "often(0, 0, 10000)", before, x.often(0, 0, 10000), OUTSIDE);
    refused(x, "often(0, 1, 2)", before, x.often(0, 1, 2), UNKNOWN);
    refused(x, "often(0, 0, 0)", before, x.often(0, 0, 0), NULL);
    x.cut(1, 0, 8);
    due("often(1, 0, 1) of nothing", x.often(1, 0, 1), 0);
  }

  private static void drop() {
    promise = 34;
    PaternosterRide x = withNumbers(1, 2, 3);
    List<Integer> before = picture(x);
    for (int n : WILD) { refused(x, "drop(" + n + ")", before, x.drop(n), UNKNOWN); }
    refused(x, "drop(3)", before, x.drop(3), UNKNOWN);
    refused(x, "drop(0)", before, x.drop(0), NULL);
    due("drop(1)", x.drop(1), 3);
    due("drop(1)", x.drop(1), NULL);
    due("count(9)", x.count(9), 0);
    due("insert(1, 0, 0, 1)", x.insert(1, 0, 0, 1), NULL);
    due("notes(1)", x.notes(1), 0);
    due("look(1, 0, 0)", x.look(1, 0, 0), INDEX);
    due("drop(1)", x.drop(1), 0);
  }

  private static void count() {
    promise = 35;
    PaternosterRide x = told("hall 6;room 3;shut 11;shut 0;plain 0 5;plain 5 4;plain 3 2;bearer 0 1");
    x.step(2);
    x.shut(5);
    x.stairs(3);
    x.seen(0, 1, 2);
    x.seen(0, 1, 2);
    x.notes(0);
    x.notes(2);
    x.insert(0, 0, 0, 1);
    x.insert(2, 0, 0, 1);
    x.insert(2, 0, 0, 1);
    x.write('a');
    // Cabin 11, at floor 0 behind 1, is shut; the next one takes 0 and 3, who does not take the stairs then; 1 and 2 are there.
    int[] counts = {6, 4, 2, 0, 9, 6, 0x821, 3, 2, 3, 2, 1};
    List<Integer> before = picture(x);
    for (int what = 0; what < 12; what++) { refused(x, "count(" + what + ")", before, x.count(what), counts[what]); }
    refused(x, "count(12)", before, x.count(12), OUTSIDE);
    for (int what : WILD) { refused(x, "count(" + what + ")", before, x.count(what), OUTSIDE); }
  }
}
