/** The sentences of part 4, which refusal comes first, and promises 26 to 35. */
final class NoteEdges {
  private static final String SCENE = RideEdges.SCENE;
  /** Notes 0 hold 1 2 3, notes 1 hold 1 .. 12, notes 2 are missing; there are two people. */
  private static final String ROWS = "{plain 0 1;plain 1 0} notes(0) " + numbers(0, 3) + "notes(1) " + numbers(1, 12);
  private static final String SIX = "{plain 0 1;plain 1 0} notes(0) " + numbers(0, 6);

  private NoteEdges() { }

  static void all() {
    Edges.section("Terms");
    rows();
    found();
    refused();
    notes();
    insert();
    look();
    cut();
    turn();
    reverse();
    paste();
    often();
    drop();
    count();
  }

  /** The numbers 1, 2 .. set in behind one another. */
  private static String numbers(int notes, int many) {
    StringBuilder b = new StringBuilder();
    for (int i = 0; i < many; i++) { b.append("insert(" + notes + "," + i + ",0," + (i + 1) + ") "); }
    return b.toString();
  }

  /** That notes hold these numbers, and nothing behind them. */
  private static String hold(int notes, int... numbers) {
    StringBuilder b = new StringBuilder(" ");
    for (int i = 0; i < numbers.length; i++) { b.append("look(" + notes + "," + i + ",0)=" + (50000 + numbers[i]) + " "); }
    return b.append("look(" + notes + "," + numbers.length + ",0)=INDEX ").toString();
  }

  private static void rows() {
    Edges.says("4 NOTES 0 .. 2 are missing (at first), or rows of 0 to 12 things: numbers, PEOPLE, MARKS (told by a number 0 .. 9).");
    Edges.run("drop(0)=NULL drop(1)=NULL drop(2)=NULL drop(-1)=UNKNOWN drop(3)=UNKNOWN count(9)=0");
    Edges.run("notes(0)=0 notes(1)=0 notes(2)=0 notes(-1)=UNKNOWN notes(3)=UNKNOWN drop(0)=0 drop(1)=0 drop(2)=0");
    for (int n = 0; n < 3; n++) { Edges.run("notes(" + n + ") " + numbers(n, 11) + "insert(" + n + ",11,0,12)=12 insert(" + n + ",12,0,13)=ROOM count(9)=12 drop(" + n + ")=12"); }
    Edges.run("notes(0) insert(0,0,2,0)=1 insert(0,1,2,9)=2 insert(0,2,2,10)=OUTSIDE insert(0,2,2,-1)=OUTSIDE look(0,0,2)=0 look(0,1,2)=9 count(9)=2");
  }

  private static void found() {
    Edges.says("What the machine finds is answered as NULL -11 (NOTES are missing),");
    Edges.run(ROWS + "look(2,0,0)=-11 insert(2,0,0,1)=-11 cut(2,0,0)=-11 turn(2,0,0,1)=-11 reverse(2,0,0)=-11 paste(2,0,0,0,0)=-11 paste(0,0,2,0,0)=-11 often(2,0,1)=-11 drop(2)=-11");
    Edges.says("INDEX -12 (a place that there is not, or beyond the end, or fewer than none),");
    Edges.run(ROWS + "look(0,3,0)=-12 look(0,-1,0)=-12 insert(0,4,0,1)=-12 insert(0,-1,0,1)=-12 cut(0,0,4)=-12 cut(0,-1,0)=-12");
    Edges.run(ROWS + "turn(0,0,4,1)=-12 turn(0,-1,0,1)=-12 reverse(0,0,4)=-12 reverse(0,-1,0)=-12 paste(0,4,0,0,0)=-12 paste(0,-1,0,0,0)=-12 paste(0,0,0,0,4)=-12 paste(0,0,0,-1,0)=-12");
    Edges.run("notes(0) look(0,0,0)=-12 insert(0,1,0,1)=-12 cut(0,0,1)=-12 turn(0,0,1,1)=-12 reverse(0,0,1)=-12 paste(0,1,0,0,0)=-12 paste(0,0,0,0,1)=-12");
    Edges.says("ORDER -13 (the end comes ahead of the begin),");
    Edges.run(ROWS + "cut(0,2,1)=-13 cut(0,4,3)=-13 cut(0,0,-1)=-13 turn(0,2,1,1)=-13 turn(0,4,3,1)=-13 reverse(0,1,0)=-13 reverse(0,4,3)=-13 paste(0,0,0,3,2)=-13 paste(0,0,0,4,3)=-13");
    Edges.run(ROWS + "cut(0,2,2)=3 turn(0,2,2,1)=0 reverse(0,2,2)=0 paste(0,0,0,2,2)=3");
    Edges.says("CAST -14 (something else is there),");
    Edges.run(ROWS + "insert(0,1,1,0) insert(0,2,2,0) look(0,0,1)=-14 look(0,0,2)=-14 look(0,1,0)=-14 look(0,1,2)=-14 look(0,2,0)=-14 look(0,2,1)=-14 look(0,0,0)=50001 look(0,1,1)=0 look(0,2,2)=0");
    Edges.says("ROOM -15 (there would be more than 12), of several the first in this order; it changes nothing.");
    Edges.run(ROWS + "insert(1,0,0,1)=-15 insert(1,12,0,1)=-15 paste(1,0,0,0,1)=-15 paste(1,12,1,0,12)=-15 paste(1,0,0,0,0)=12");
    Edges.still(ROWS, "insert(1,13,0,1)=INDEX", "insert(1,-1,0,1)=INDEX", "paste(1,13,0,0,1)=INDEX", "paste(1,0,0,0,4)=INDEX", "paste(1,0,0,2,1)=ORDER", "paste(1,13,0,2,1)=INDEX", "paste(2,13,0,2,4)=NULL");
    Edges.still(ROWS, "cut(0,-1,-2)=INDEX", "cut(0,5,4)=INDEX", "turn(0,-1,-2,1)=INDEX", "reverse(0,5,4)=INDEX", "cut(2,-1,-2)=NULL", "look(2,-1,0)=NULL", "insert(2,13,0,1)=NULL");
  }

  private static void refused() {
    Edges.says("Refused, and nothing changes: UNKNOWN (no such PERSON, CABIN, NOTES; two that are the same, where two are asked),");
    Edges.still(SCENE, "person(4,0)=UNKNOWN", "cabin(10,0)=UNKNOWN", "drop(3)=UNKNOWN", "insert(0,0,1,4)=UNKNOWN", "often(0,1,4)=UNKNOWN", "meet(1,1)=UNKNOWN", "keep(2)=UNKNOWN");
    // The same NOTES twice are fine, as paste() says so.
    Edges.run(ROWS + "paste(0,0,0,0,1)=4");
    Edges.says("OUTSIDE (another number is not as told),");
    Edges.still(SCENE, "write(256)=OUTSIDE", "step(13)=OUTSIDE", "person(0,7)=OUTSIDE", "insert(0,0,3,0)=OUTSIDE", "look(0,0,3)=OUTSIDE", "turn(0,0,0,21)=OUTSIDE", "count(12)=OUTSIDE");
    Edges.says("NOT (not now: as told), FULL, then what the machine finds: the first of these that fits.");
    Edges.still(SCENE, "as(0,5)=NOT", "stairs(0)=NOT");
    // UNKNOWN ahead of OUTSIDE, NOT, NULL, INDEX, ORDER, ROOM.
    Edges.still(SCENE, "person(4,7)=UNKNOWN", "as(4,6)=UNKNOWN", "stairs(4)=UNKNOWN", "look(3,99,3)=UNKNOWN", "turn(3,9,-9,21)=UNKNOWN", "cut(3,9,-9)=UNKNOWN", "insert(1,99,1,4)=UNKNOWN", "insert(3,99,3,4)=UNKNOWN");
    // OUTSIDE ahead of NOT, FULL, NULL, INDEX, ORDER, CAST, ROOM.
    Edges.still(SCENE, "as(0,6)=OUTSIDE", "insert(1,99,0,10000)=OUTSIDE", "look(1,99,3)=OUTSIDE", "look(0,0,3)=OUTSIDE", "turn(1,2,1,21)=OUTSIDE", "often(1,2,10)=OUTSIDE");
    Edges.still(ROWS, "insert(1,0,0,10000)=OUTSIDE", "insert(1,0,2,10)=OUTSIDE", "insert(1,0,1,2)=UNKNOWN", "turn(1,2,1,21)=OUTSIDE", "turn(1,-1,1,-21)=OUTSIDE");
    Edges.still("write(97)*200", "write(256)=OUTSIDE");
    Edges.still("step(12)*83 step(3)", "step(13)=OUTSIDE");
    Edges.still("seen(0,1,2)*6", "seen(0,0,2)=OUTSIDE");
  }

  private static void notes() {
    Edges.promise(26);
    Edges.says("NOTES are new ones, with nothing: 0.");
    Edges.run("notes(0)=0 look(0,0,0)=INDEX notes(2)=0 look(2,0,0)=INDEX look(1,0,0)=NULL count(9)=0");
    Edges.run(ROWS + "notes(1)=0 count(9)=3 look(1,0,0)=INDEX insert(1,0,0,7)=1 look(1,0,0)=50007 look(1,1,0)=INDEX" + hold(0, 1, 2, 3));
    Edges.says("UNKNOWN.");
    Edges.still("", "notes(3)=UNKNOWN", "notes(-1)=UNKNOWN");
    Edges.still(SCENE, "notes(3)=UNKNOWN", "notes(-1)=UNKNOWN", "notes(MIN)=UNKNOWN", "notes(MAX)=UNKNOWN");
  }

  private static void insert() {
    Edges.promise(27);
    Edges.says("A number v (what 0; -9999 .. 9999), PERSON v (1), MARK v (2) is set in at place i (0 to how many there are), those from there on one place farther: how many there are.");
    Edges.run(SIX + "insert(0,0,0,-9999)=7 insert(0,7,0,9999)=8" + hold(0, -9999, 1, 2, 3, 4, 5, 6, 9999));
    Edges.run(SIX + "insert(0,3,0,0)=7" + hold(0, 1, 2, 3, 0, 4, 5, 6));
    Edges.run("notes(0) insert(0,0,0,0)=1 insert(0,1,0,-1)=2 insert(0,0,0,1)=3" + hold(0, 1, 0, -1));
    Edges.run(SIX + "insert(0,0,1,0)=7 insert(0,0,1,1)=8 look(0,0,1)=1 look(0,1,1)=0 insert(0,8,2,0)=9 insert(0,9,2,9)=10 look(0,8,2)=0 look(0,9,2)=9");
    Edges.run("{hall 2" + ";plain 0 1".repeat(8) + "} notes(2) insert(2,0,1,7)=1 insert(2,0,1,8)=UNKNOWN look(2,0,1)=7");
    Edges.run("notes(0) " + numbers(0, 11) + "insert(0,0,0,0)=12" + hold(0, 0, 1, 2, 3, 4, 5, 6, 7, 8, 9, 10, 11));
    Edges.says("UNKNOWN (NOTES; by what 1 the PERSON); OUTSIDE (what; the number, the MARK); NULL; INDEX; ROOM.");
    Edges.still(SCENE, "insert(3,0,0,1)=UNKNOWN", "insert(-1,0,0,1)=UNKNOWN", "insert(MIN,0,0,1)=UNKNOWN", "insert(MAX,0,0,1)=UNKNOWN");
    Edges.still(SCENE, "insert(0,0,1,4)=UNKNOWN", "insert(0,0,1,-1)=UNKNOWN", "insert(0,0,1,MIN)=UNKNOWN", "insert(0,0,1,MAX)=UNKNOWN");
    Edges.still("notes(0)", "insert(0,0,1,0)=UNKNOWN");
    Edges.still(SCENE, "insert(0,0,3,1)=OUTSIDE", "insert(0,0,-1,1)=OUTSIDE", "insert(0,0,MIN,1)=OUTSIDE", "insert(0,0,MAX,1)=OUTSIDE", "insert(0,0,3,99)=OUTSIDE");
    Edges.still(SCENE, "insert(0,0,0,10000)=OUTSIDE", "insert(0,0,0,-10000)=OUTSIDE", "insert(0,0,0,MIN)=OUTSIDE", "insert(0,0,0,MAX)=OUTSIDE");
    Edges.still(SCENE, "insert(0,0,2,10)=OUTSIDE", "insert(0,0,2,-1)=OUTSIDE", "insert(0,0,2,MIN)=OUTSIDE", "insert(0,0,2,MAX)=OUTSIDE");
    Edges.still(SCENE, "insert(1,0,0,1)=NULL", "insert(1,0,1,0)=NULL", "insert(1,0,2,0)=NULL", "insert(0,4,0,1)=INDEX", "insert(0,-1,0,1)=INDEX", "insert(0,MIN,0,1)=INDEX", "insert(0,MAX,0,1)=INDEX");
    Edges.still(ROWS, "insert(1,0,0,1)=ROOM", "insert(1,12,0,1)=ROOM", "insert(1,6,1,1)=ROOM", "insert(1,6,2,1)=ROOM");
    // Two fit: UNKNOWN, OUTSIDE, NULL, INDEX, ROOM, in this order.
    Edges.still(SCENE, "insert(3,0,3,1)=UNKNOWN", "insert(3,-1,0,1)=UNKNOWN", "insert(1,0,1,4)=UNKNOWN", "insert(0,4,1,4)=UNKNOWN", "insert(1,0,3,1)=OUTSIDE", "insert(1,0,0,10000)=OUTSIDE", "insert(1,0,2,10)=OUTSIDE");
    Edges.still(SCENE, "insert(0,4,3,1)=OUTSIDE", "insert(0,4,0,10000)=OUTSIDE", "insert(0,4,2,10)=OUTSIDE", "insert(1,4,0,1)=NULL", "insert(1,-1,0,1)=NULL");
    Edges.still(ROWS, "insert(1,13,0,1)=INDEX", "insert(1,-1,0,1)=INDEX", "insert(1,0,1,2)=UNKNOWN", "insert(1,0,3,0)=OUTSIDE", "insert(1,0,0,-10000)=OUTSIDE");
  }

  private static void look() {
    Edges.promise(28);
    Edges.says("What is at place i, taken as a number (what 0: that, and 50000 more), as a PERSON (1), as a MARK (2).");
    Edges.run("notes(0) insert(0,0,0,-9999) insert(0,1,0,0) insert(0,2,0,9999) look(0,0,0)=40001 look(0,1,0)=50000 look(0,2,0)=59999");
    Edges.run(ROWS + "look(1,0,0)=50001 look(1,11,0)=50012 look(1,12,0)=INDEX");
    Edges.run("{hall 2" + ";plain 0 1".repeat(8) + "} notes(0) insert(0,0,1,7) insert(0,1,1,0) insert(0,2,2,9) insert(0,3,2,0) look(0,0,1)=7 look(0,1,1)=0 look(0,2,2)=9 look(0,3,2)=0");
    Edges.still(SCENE, "look(0,0,0)=50005", "look(0,1,1)=2", "look(0,2,2)=7");
    Edges.says("UNKNOWN; OUTSIDE; NULL; INDEX; CAST.");
    Edges.still(SCENE, "look(3,0,0)=UNKNOWN", "look(-1,0,0)=UNKNOWN", "look(MIN,0,0)=UNKNOWN", "look(MAX,0,0)=UNKNOWN");
    Edges.still(SCENE, "look(0,0,3)=OUTSIDE", "look(0,0,-1)=OUTSIDE", "look(0,0,MIN)=OUTSIDE", "look(0,0,MAX)=OUTSIDE");
    Edges.still(SCENE, "look(1,0,0)=NULL", "look(0,3,0)=INDEX", "look(0,-1,0)=INDEX", "look(2,0,0)=INDEX", "look(0,MIN,0)=INDEX", "look(0,MAX,0)=INDEX", "look(0,12,0)=INDEX");
    Edges.still(SCENE, "look(0,0,1)=CAST", "look(0,0,2)=CAST", "look(0,1,0)=CAST", "look(0,1,2)=CAST", "look(0,2,0)=CAST", "look(0,2,1)=CAST");
    // Two fit: UNKNOWN, OUTSIDE, NULL, INDEX, CAST, in this order.
    Edges.still(SCENE, "look(3,0,3)=UNKNOWN", "look(3,-1,0)=UNKNOWN", "look(1,0,3)=OUTSIDE", "look(0,3,3)=OUTSIDE", "look(1,-1,0)=NULL", "look(1,12,2)=NULL");
  }

  /** What cut(), turn() and reverse() refuse alike: the call up to its places, and behind them. */
  private static void spans(String call, String rest) {
    Edges.still(ROWS, call + "(3,0,0" + rest + "=UNKNOWN", call + "(-1,0,0" + rest + "=UNKNOWN", call + "(MIN,0,0" + rest + "=UNKNOWN", call + "(MAX,0,0" + rest + "=UNKNOWN");
    Edges.still(ROWS, call + "(2,0,0" + rest + "=NULL", call + "(0,-1,3" + rest + "=INDEX", call + "(0,0,4" + rest + "=INDEX", call + "(1,0,13" + rest + "=INDEX");
    Edges.still(ROWS, call + "(0,MIN,3" + rest + "=INDEX", call + "(0,0,MAX" + rest + "=INDEX", call + "(0,MIN,MAX" + rest + "=INDEX", call + "(0,4,4" + rest + "=INDEX");
    Edges.still(ROWS, call + "(0,1,0" + rest + "=ORDER", call + "(0,3,2" + rest + "=ORDER", call + "(0,4,3" + rest + "=ORDER", call + "(0,MAX,3" + rest + "=ORDER", call + "(0,0,-1" + rest + "=ORDER", call + "(0,MAX,MIN" + rest + "=ORDER");
    // Two fit: UNKNOWN, NULL, INDEX, ORDER, in this order.
    Edges.still(ROWS, call + "(3,-1,0" + rest + "=UNKNOWN", call + "(3,2,1" + rest + "=UNKNOWN", call + "(2,-1,0" + rest + "=NULL", call + "(2,2,1" + rest + "=NULL", call + "(0,-1,-2" + rest + "=INDEX", call + "(0,5,4" + rest + "=INDEX");
  }

  private static void cut() {
    Edges.promise(29);
    Edges.says("What is from place i to ahead of place j is cut out: how many there are yet.");
    Edges.run(SIX + "cut(0,0,1)=5" + hold(0, 2, 3, 4, 5, 6));
    Edges.run(SIX + "cut(0,5,6)=5" + hold(0, 1, 2, 3, 4, 5));
    Edges.run(SIX + "cut(0,1,5)=2" + hold(0, 1, 6));
    Edges.run(SIX + "cut(0,0,6)=0" + hold(0) + "cut(0,0,0)=0 drop(0)=0");
    Edges.run(SIX + "cut(0,0,0)=6 cut(0,3,3)=6 cut(0,6,6)=6" + hold(0, 1, 2, 3, 4, 5, 6));
    Edges.run(ROWS + "cut(1,0,12)=0 count(9)=3 insert(1,0,0,5)=1" + hold(1, 5) + hold(0, 1, 2, 3));
    Edges.run(ROWS + "cut(1,11,12)=11 insert(1,11,0,5)=12 insert(1,12,0,5)=ROOM");
    Edges.says("UNKNOWN; NULL; INDEX (i below 0, j beyond the end); ORDER.");
    spans("cut", ")");
  }

  private static void turn() {
    Edges.promise(30);
    Edges.says("What is from place i to ahead of place j is turned about: each goes d places on (below 0: back), round and round within these: how many these are.");
    Edges.run(SIX + "turn(0,0,6,1)=6" + hold(0, 6, 1, 2, 3, 4, 5));
    Edges.run(SIX + "turn(0,0,6,-1)=6" + hold(0, 2, 3, 4, 5, 6, 1));
    Edges.run(SIX + "turn(0,1,5,1)=4" + hold(0, 1, 5, 2, 3, 4, 6));
    Edges.run(SIX + "turn(0,1,5,-1)=4" + hold(0, 1, 3, 4, 5, 2, 6));
    // As far as it may go, which is more than once round.
    Edges.run(SIX + "turn(0,0,6,20)=6" + hold(0, 5, 6, 1, 2, 3, 4));
    Edges.run(SIX + "turn(0,0,6,-20)=6" + hold(0, 3, 4, 5, 6, 1, 2));
    Edges.run(SIX + "turn(0,0,3,20)=3" + hold(0, 2, 3, 1, 4, 5, 6));
    Edges.run(SIX + "turn(0,3,6,-20)=3" + hold(0, 1, 2, 3, 6, 4, 5));
    Edges.run(ROWS + "turn(1,0,12,20)=12" + hold(1, 5, 6, 7, 8, 9, 10, 11, 12, 1, 2, 3, 4));
    Edges.run(SIX + "turn(0,0,6,0)=6 turn(0,0,6,6)=6 turn(0,0,6,-6)=6 turn(0,0,6,18)=6 turn(0,0,5,20)=5 turn(0,0,5,-20)=5" + hold(0, 1, 2, 3, 4, 5, 6));
    // None and one: nothing that could go anywhere.
    Edges.run(SIX + "turn(0,0,0,7)=0 turn(0,6,6,-7)=0 turn(0,3,3,20)=0 turn(0,3,4,7)=1 turn(0,5,6,-20)=1" + hold(0, 1, 2, 3, 4, 5, 6));
    Edges.run("notes(0) turn(0,0,0,-20)=0 turn(0,0,0,20)=0 count(9)=0");
    Edges.says("UNKNOWN; OUTSIDE (d -20 .. 20); NULL; INDEX; ORDER.");
    spans("turn", ",1)");
    spans("turn", ",20)");
    spans("turn", ",-20)");
    Edges.still(ROWS, "turn(0,0,3,21)=OUTSIDE", "turn(0,0,3,-21)=OUTSIDE", "turn(0,0,3,MIN)=OUTSIDE", "turn(0,0,3,MAX)=OUTSIDE", "turn(0,0,0,21)=OUTSIDE");
    Edges.still(ROWS, "turn(3,0,0,21)=UNKNOWN", "turn(2,0,0,21)=OUTSIDE", "turn(0,-1,0,21)=OUTSIDE", "turn(0,0,4,-21)=OUTSIDE", "turn(0,1,0,-21)=OUTSIDE");
  }

  private static void reverse() {
    Edges.promise(31);
    Edges.says("What is from place i to ahead of place j comes in reverse order: how many these are.");
    Edges.run(SIX + "reverse(0,0,6)=6" + hold(0, 6, 5, 4, 3, 2, 1));
    Edges.run(SIX + "reverse(0,1,6)=5" + hold(0, 1, 6, 5, 4, 3, 2));
    Edges.run(SIX + "reverse(0,0,2)=2" + hold(0, 2, 1, 3, 4, 5, 6));
    Edges.run(SIX + "reverse(0,4,6)=2" + hold(0, 1, 2, 3, 4, 6, 5));
    Edges.run(SIX + "reverse(0,0,0)=0 reverse(0,6,6)=0 reverse(0,3,4)=1 reverse(0,0,1)=1 reverse(0,5,6)=1" + hold(0, 1, 2, 3, 4, 5, 6));
    Edges.run(ROWS + "reverse(1,0,12)=12" + hold(1, 12, 11, 10, 9, 8, 7, 6, 5, 4, 3, 2, 1));
    Edges.run("notes(0) reverse(0,0,0)=0");
    Edges.says("UNKNOWN; NULL; INDEX; ORDER.");
    spans("reverse", ")");
  }

  private static void paste() {
    Edges.promise(32);
    Edges.says("What other NOTES (or the same) have from place i to ahead of place j is set in at place k, too, in its order: how many there are then.");
    Edges.run(ROWS + "notes(2) paste(2,0,0,0,3)=3" + hold(2, 1, 2, 3) + hold(0, 1, 2, 3) + "count(9)=18");
    Edges.run(ROWS + "paste(0,0,1,0,9)=12" + hold(0, 1, 2, 3, 4, 5, 6, 7, 8, 9, 1, 2, 3));
    Edges.run(ROWS + "paste(0,3,1,3,12)=12" + hold(0, 1, 2, 3, 4, 5, 6, 7, 8, 9, 10, 11, 12));
    Edges.run(ROWS + "notes(2) paste(2,0,1,0,12)=12" + hold(2, 1, 2, 3, 4, 5, 6, 7, 8, 9, 10, 11, 12));
    Edges.run(ROWS + "paste(0,1,1,11,12)=4" + hold(0, 1, 12, 2, 3));
    // The same ones: ahead of what is taken, within it, behind it, and twice as many.
    Edges.run(SIX + "paste(0,0,0,4,6)=8" + hold(0, 5, 6, 1, 2, 3, 4, 5, 6));
    Edges.run(SIX + "paste(0,2,0,1,4)=9" + hold(0, 1, 2, 2, 3, 4, 3, 4, 5, 6));
    Edges.run(SIX + "paste(0,6,0,0,2)=8" + hold(0, 1, 2, 3, 4, 5, 6, 1, 2));
    Edges.run(SIX + "paste(0,3,0,0,6)=12" + hold(0, 1, 2, 3, 1, 2, 3, 4, 5, 6, 4, 5, 6));
    // Nothing, into nothing and into what is full.
    Edges.run("notes(0) notes(1) paste(0,0,1,0,0)=0 paste(0,0,0,0,0)=0 count(9)=0");
    Edges.run(ROWS + "paste(1,12,0,3,3)=12 paste(1,0,1,12,12)=12 paste(1,6,1,0,0)=12" + hold(1, 1, 2, 3, 4, 5, 6, 7, 8, 9, 10, 11, 12));
    Edges.run(ROWS + "insert(0,3,1,1) insert(0,4,2,9) notes(2) paste(2,0,0,2,5)=3 look(2,0,0)=50003 look(2,1,1)=1 look(2,2,2)=9");
    Edges.says("UNKNOWN; NULL (either); INDEX (i, j; k); ORDER; ROOM.");
    Edges.still(ROWS, "paste(3,0,0,0,0)=UNKNOWN", "paste(-1,0,0,0,0)=UNKNOWN", "paste(0,0,3,0,0)=UNKNOWN", "paste(0,0,-1,0,0)=UNKNOWN", "paste(MIN,0,0,0,0)=UNKNOWN", "paste(0,0,MAX,0,0)=UNKNOWN", "paste(3,0,3,0,0)=UNKNOWN");
    Edges.still(ROWS, "paste(2,0,0,0,0)=NULL", "paste(0,0,2,0,0)=NULL", "paste(2,0,2,0,0)=NULL");
    Edges.still(ROWS, "paste(0,0,1,-1,2)=INDEX", "paste(0,0,1,0,13)=INDEX", "paste(1,0,0,0,4)=INDEX", "paste(0,4,1,0,1)=INDEX", "paste(0,-1,1,0,1)=INDEX", "paste(0,0,1,MIN,0)=INDEX", "paste(0,0,1,0,MAX)=INDEX", "paste(0,MIN,1,0,0)=INDEX", "paste(0,MAX,1,0,0)=INDEX");
    Edges.still(ROWS, "paste(0,0,1,1,0)=ORDER", "paste(0,0,1,13,12)=ORDER", "paste(0,0,1,0,-1)=ORDER", "paste(0,3,0,3,0)=ORDER", "paste(0,0,1,MAX,MIN)=ORDER", "paste(0,0,1,MAX,0)=ORDER");
    Edges.still(ROWS, "paste(0,0,1,0,10)=ROOM", "paste(0,3,1,2,12)=ROOM", "paste(1,0,0,0,1)=ROOM", "paste(1,12,1,0,1)=ROOM", "paste(1,0,1,0,12)=ROOM");
    Edges.still(SIX + "insert(0,6,0,7)", "paste(0,0,0,0,6)=ROOM", "paste(0,7,0,1,7)=ROOM");
    // Two fit: UNKNOWN, NULL, INDEX, ORDER, ROOM, in this order.
    Edges.still(ROWS, "paste(3,0,2,0,0)=UNKNOWN", "paste(2,0,3,0,0)=UNKNOWN", "paste(0,-1,3,0,0)=UNKNOWN", "paste(3,0,0,2,1)=UNKNOWN", "paste(2,0,0,-1,0)=NULL", "paste(2,0,0,0,4)=NULL", "paste(2,1,0,0,0)=NULL", "paste(0,4,2,0,0)=NULL", "paste(0,0,2,2,1)=NULL", "paste(1,0,2,0,1)=NULL");
    Edges.still(ROWS, "paste(0,0,1,-1,-2)=INDEX", "paste(0,0,1,14,13)=INDEX", "paste(0,4,1,1,0)=INDEX", "paste(0,-1,1,1,0)=INDEX", "paste(1,13,0,0,1)=INDEX", "paste(1,-1,0,0,1)=INDEX", "paste(1,0,0,0,4)=INDEX", "paste(1,0,0,-1,1)=INDEX", "paste(1,0,0,1,0)=ORDER", "paste(1,12,1,12,0)=ORDER");
  }

  private static void often() {
    Edges.promise(33);
    Edges.says("How often such a one is there (what, v as by insert()).");
    Edges.run("notes(0) often(0,0,0)=0 often(0,2,0)=0");
    Edges.run("notes(0) insert(0,0,2,5)*12 often(0,2,5)=12 often(0,0,5)=0 often(0,2,4)=0 often(0,2,6)=0");
    Edges.run("{plain 0 1;plain 1 0} notes(0) insert(0,0,0,1) insert(0,0,1,1) insert(0,0,2,1) insert(0,0,0,1) often(0,0,1)=2 often(0,1,1)=1 often(0,2,1)=1 often(0,1,0)=0");
    Edges.run("notes(0) insert(0,0,0,9999) insert(0,0,0,-9999) insert(0,0,0,-9999) often(0,0,9999)=1 often(0,0,-9999)=2 often(0,0,9998)=0 often(0,0,-9998)=0");
    // Only what is still there counts: not what was cut from the end, nor what dropped ones held.
    Edges.run("notes(0) insert(0,0,2,5)*12 cut(0,1,12)=1 often(0,2,5)=1 cut(0,0,1)=0 often(0,2,5)=0");
    Edges.run("notes(0) insert(0,0,2,5)*12 drop(0)=12 notes(0)=0 often(0,2,5)=0");
    Edges.says("UNKNOWN, OUTSIDE (likewise); NULL.");
    Edges.still(SCENE, "often(3,0,1)=UNKNOWN", "often(-1,0,1)=UNKNOWN", "often(MIN,0,1)=UNKNOWN", "often(MAX,0,1)=UNKNOWN", "often(0,1,4)=UNKNOWN", "often(0,1,-1)=UNKNOWN", "often(0,1,MIN)=UNKNOWN");
    Edges.still(SCENE, "often(0,3,1)=OUTSIDE", "often(0,-1,1)=OUTSIDE", "often(0,MIN,1)=OUTSIDE", "often(0,MAX,1)=OUTSIDE", "often(0,0,10000)=OUTSIDE", "often(0,0,-10000)=OUTSIDE", "often(0,2,10)=OUTSIDE", "often(0,2,-1)=OUTSIDE");
    Edges.still(SCENE, "often(1,0,1)=NULL", "often(1,1,3)=NULL", "often(1,2,9)=NULL", "often(0,1,3)=0", "often(0,1,2)=1", "often(0,2,9)=0", "often(0,0,-9999)=0");
    // Two fit: UNKNOWN, OUTSIDE, NULL, in this order.
    Edges.still(SCENE, "often(3,3,1)=UNKNOWN", "often(3,0,10000)=UNKNOWN", "often(1,1,4)=UNKNOWN", "often(1,3,1)=OUTSIDE", "often(1,0,10000)=OUTSIDE", "often(1,2,10)=OUTSIDE");
  }

  private static void drop() {
    Edges.promise(34);
    Edges.says("NOTES are missing from now on: how many things they had.");
    Edges.run(ROWS + "drop(1)=12 drop(1)=NULL drop(0)=3 drop(0)=NULL count(9)=0");
    Edges.run("notes(2) drop(2)=0 look(2,0,0)=NULL insert(2,0,0,1)=NULL notes(2)=0 insert(2,0,0,1)=1 drop(2)=1");
    Edges.run(ROWS + "drop(0)=3 count(9)=12 look(0,0,0)=NULL look(1,11,0)=50012");
    Edges.says("UNKNOWN; NULL.");
    Edges.still("", "drop(0)=NULL", "drop(2)=NULL", "drop(3)=UNKNOWN", "drop(-1)=UNKNOWN");
    Edges.still(ROWS, "drop(2)=NULL", "drop(3)=UNKNOWN", "drop(-1)=UNKNOWN", "drop(MIN)=UNKNOWN", "drop(MAX)=UNKNOWN");
  }

  private static void count() {
    Edges.promise(35);
    Edges.says("0 FLOORS, 1 PEOPLE, 2 STEPS, 3 who WAITS (bits), 4 who RIDES (bits), 5 who is THERE (bits), 6 SHUT CABINS (bits), 7 ROOM, 8 SEEN,");
    Edges.run("count(0)=4 count(1)=0 count(2)=0 count(3)=0 count(4)=0 count(5)=0 count(6)=0 count(7)=2 count(8)=0");
    Edges.run("{hall 7;room 4" + ";plain 0 6".repeat(8) + "} count(0)=7 count(1)=8 count(3)=255 count(4)=0 count(5)=0 count(7)=4 step(2) count(3)=0 count(4)=255 count(5)=0 count(2)=2 step(6) count(3)=0 count(4)=0 count(5)=255");
    Edges.run("{hall 7} " + Edges.each("shut(", 14, ")") + "count(6)=16383");
    Edges.run("step(12)*83 step(3) count(2)=999");
    Edges.run("seen(0,1,2)*7 count(8)=6");
    Edges.says("9 things in all NOTES, 10 how many can be undone, 11 letters of THE TEXT.");
    Edges.run("notes(0) notes(1) notes(2) count(9)=0 " + numbers(0, 12) + "count(9)=12 " + numbers(1, 12) + "count(9)=24 " + numbers(2, 12) + "count(9)=36 drop(1) count(9)=24");
    Edges.run("count(10)=0 step(1)*8 count(10)=8 step(1) count(10)=8 undo() count(10)=7");
    Edges.run("count(11)=0 write(97)*200 count(11)=200 write(97) count(11)=200 erase() count(11)=0");
    Edges.says("OUTSIDE.");
    Edges.still("", "count(12)=OUTSIDE", "count(-1)=OUTSIDE");
    Edges.still(SCENE, "count(12)=OUTSIDE", "count(-1)=OUTSIDE", "count(MIN)=OUTSIDE", "count(MAX)=OUTSIDE", "count(11)=16", "count(0)=5");
  }
}
