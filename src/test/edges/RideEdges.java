/** The sentences of part 2, and promises 6 to 14: what is told of people and cabins, and what is done. */
final class RideEdges {
  private static final String EIGHT = "hall 2;room 4" + ";plain 0 1".repeat(8);
  private static final String KINDS = "plain 0 1;timid 0 1;bearer 0 1;idler 0 1;hasty 0 1";
  /** 0 is there, 1 rides, 2 waits for ever, 3 rides; both are kept, three deeds can be undone, a text is written, notes 1 are missing. */
  static final String SCENE = "{hall 5;room 1;shut 9;plain 0 1;timid 1 0;bearer 4 0;idler 2 3} keep(0) step(2) shut(3) keep(1) step(1) "
    + "seen(0,1,2) seen(1,0,2) notes(0) insert(0,0,0,5) insert(0,1,1,2) insert(0,2,2,7) notes(2) 'room 4;plain 0 1' ";

  private RideEdges() { }

  static void all() {
    Edges.section("Terms");
    steps();
    gettingOut();
    ridden();
    looking();
    steppingIn();
    ways();
    plain();
    timid();
    bearer();
    idler();
    hasty();
    kinds();
    shutAndStairs();
    person();
    cabin();
    as();
    step();
    shut();
    stairs();
    undo();
    keep();
    back();
  }

  /** What is known of a person behind so many single steps. */
  private static void rides(String text, int steps, int person, int state, int cabin, int ridden) {
    Edges.run("{" + text + "} step(1)*" + steps + " person(" + person + ",3)=" + state + " person(" + person + ",4)=" + cabin + " person(" + person + ",5)=" + ridden);
  }

  private static void steps() {
    Edges.says("2 A STEP: the CABINS go on by one PLACE.");
    Edges.run("step(1) cabin(0,1)=1 cabin(6,1)=7 cabin(7,1)=0 step(1) cabin(0,1)=2 cabin(6,1)=0");
    Edges.run("{plain 0 1} step(1) person(0,4)=7 cabin(7,2)=0");
  }

  private static void gettingOut() {
    Edges.says("Then of those who RIDE, rising, each one whose CABIN is at TO gets out, if by KIND one WILL");
    // The first place at TO is enough, at the top, at the bottom, and the other way than one wanted.
    rides("plain 0 3", 3, 0, 1, 7, 2);
    rides("plain 0 3", 4, 0, 2, -1, 3);
    rides("plain 3 0", 3, 0, 1, 3, 2);
    rides("plain 3 0", 4, 0, 2, -1, 3);
    rides("hall 3;hasty 1 0;shut 3", 4, 0, 1, 0, 3);
    rides("hall 3;hasty 1 0;shut 3", 5, 0, 2, -1, 4);
    Edges.run("{plain 0 1;plain 0 1} step(1) cabin(7,3)=3 step(1) count(5)=3 cabin(7,3)=0 cabin(7,4)=2");
    Edges.run("{plain 0 1;plain 0 2} step(1) cabin(7,3)=3 step(1) count(5)=1 cabin(7,3)=2 cabin(7,4)=1 step(1) count(5)=3");
    // All have got out ahead of the first who looks.
    rides("room 1;plain 1 3;plain 0 1;shut 0", 2, 0, 1, 7, 0);
    rides("room 1;plain 0 1;plain 1 3;shut 0", 2, 1, 1, 7, 0);
    // Who has got out is there for good.
    Edges.run("{plain 0 1} step(2) person(0,3)=2 step(12) person(0,3)=2 step(12) person(0,3)=2");
  }

  private static void ridden() {
    Edges.says("(who came in this way has RIDDEN 0 STEPS, by each STEP 1 more): one is THERE.");
    for (int t = 1; t <= 3; t++) { rides("plain 0 3", t, 0, 1, 7, t - 1); }
    rides("plain 0 3", 4, 0, 2, -1, 3);
    rides("plain 0 1", 2, 0, 2, -1, 1);
    rides("hall 7;idler 0 1", 14, 0, 1, 13, 13);
    rides("hall 7;idler 0 1", 15, 0, 1, 13, 14);
    rides("hall 7;idler 0 1", 16, 0, 2, -1, 15);
    Edges.run("{plain 0 3} step(3) person(0,5)=2 undo() person(0,5)=0 step(1) person(0,5)=0 step(1) person(0,5)=1");
  }

  private static void looking() {
    Edges.says("Then of those who WAIT, rising, each one looks at the CABINS at FROM, one going up, one going down, by KIND at some in some order,");
    rides("room 1;plain 0 1;plain 0 1", 1, 0, 1, 7, 0);
    rides("room 1;plain 0 1;plain 0 1", 1, 1, 0, -1, 0);
    rides("room 1;plain 0 1;plain 0 1", 2, 1, 1, 6, 0);
    Edges.run("{" + EIGHT + "} step(1) count(4)=15 count(3)=240 step(1) count(4)=240 count(5)=15 step(1) count(5)=255");
    // At the top and at the bottom one of the two has just come round.
    rides("hall 2;hasty 1 0", 1, 0, 1, 1, 0);
    rides("hall 2;hasty 1 0;shut 1", 1, 0, 1, 0, 0);
    rides("hall 2;hasty 0 1", 1, 0, 1, 3, 0);
    rides("hall 2;hasty 0 1;shut 3", 1, 0, 1, 2, 0);
    rides("hall 7;hasty 6 0;shut 6", 1, 0, 1, 5, 0);
  }

  private static void steppingIn() {
    Edges.says("and steps into the first of these that is not SHUT and has so much ROOM left as by KIND one TAKES.");
    rides("plain 0 1;shut 7", 1, 0, 0, -1, 0);
    rides("plain 0 1;shut 7", 2, 0, 1, 6, 0);
    rides("room 1;hasty 1 2;hasty 1 2;hasty 1 2", 1, 0, 1, 0, 0);
    rides("room 1;hasty 1 2;hasty 1 2;hasty 1 2", 1, 1, 1, 5, 0);
    rides("room 1;hasty 1 2;hasty 1 2;hasty 1 2", 1, 2, 0, -1, 0);
    for (int room = 1; room <= 4; room++) {
      Edges.run("{hall 2;room " + room + ";plain 0 1" + ";plain 0 1".repeat(room) + "} step(1) cabin(3,4)=0 count(3)=" + (1 << room));
    }
    Edges.run("{room 3;plain 0 1;bearer 0 1} step(1) cabin(7,3)=3 cabin(7,4)=0");
    Edges.run("{room 2;plain 0 1;bearer 0 1} step(1) cabin(7,3)=1 cabin(7,4)=1 step(1) cabin(6,3)=2 cabin(6,4)=0");
    Edges.run("{room 4;bearer 0 1;bearer 0 1;plain 0 1} step(1) cabin(7,3)=3 cabin(7,4)=0 person(2,3)=0");
    // All shut: nobody ever steps in.
    Edges.run("{hall 2;hasty 0 1;shut 0;shut 1;shut 2;shut 3} step(12) person(0,3)=0 person(0,5)=0 step(12) person(0,3)=0");
  }

  private static void ways() {
    Edges.says("WAY is up, if TO is above FROM, else down.");
    rides("hall 7;plain 3 4", 1, 0, 1, 2, 0);
    rides("hall 7;plain 3 2", 1, 0, 1, 9, 0);
    rides("hall 7;plain 0 6", 1, 0, 1, 13, 0);
    rides("hall 7;plain 6 0", 1, 0, 1, 6, 0);
    rides("hall 2;plain 0 1", 1, 0, 1, 3, 0);
    rides("hall 2;plain 1 0", 1, 0, 1, 1, 0);
  }

  private static void plain() {
    Edges.says("By KIND: PLAIN: WILL always, looks at the one of WAY alone, TAKES 1.");
    rides("plain 0 1", 2, 0, 2, -1, 1);
    rides("plain 1 2;shut 0", 1, 0, 0, -1, 0);
    rides("plain 1 0;shut 5", 1, 0, 0, -1, 0);
    rides("room 1;plain 1 2", 1, 0, 1, 0, 0);
    rides("room 1;plain 1 2;plain 1 2", 1, 1, 0, -1, 0);
    Edges.run("{room 2;plain 0 3;plain 0 3} step(1) cabin(7,3)=3 cabin(7,4)=0 person(0,6)=1");
  }

  private static void timid() {
    Edges.says("TIMID: as PLAIN, but steps in only if nobody is in it.");
    Edges.run("{room 4;plain 0 3;timid 0 3} step(1) cabin(7,3)=1 person(1,3)=0 step(1) person(1,4)=6");
    Edges.run("{room 4;timid 0 3;plain 0 3} step(1) cabin(7,3)=3 person(0,6)=1");
    Edges.run("{room 4;timid 0 3;timid 0 3} step(1) cabin(7,3)=1");
    // Empty, as the one who was in it has got out by this step; not empty, as one of two is still in it.
    rides("room 4;plain 0 1;timid 1 3;shut 0", 2, 1, 1, 7, 0);
    rides("room 4;plain 0 1;plain 0 2;timid 1 3;shut 0", 2, 2, 0, -1, 0);
    rides("timid 0 1", 2, 0, 2, -1, 1);
    rides("timid 1 2;shut 0", 1, 0, 0, -1, 0);
    rides("room 1;timid 1 2", 1, 0, 1, 0, 0);
    Edges.run("{room 4;timid 0 3;plain 0 3;plain 0 3;plain 0 3} step(1) cabin(7,3)=15 cabin(7,4)=0");
  }

  private static void bearer() {
    Edges.says("BEARER: as PLAIN, but TAKES 2.");
    rides("room 1;bearer 0 1", 12, 0, 0, -1, 0);
    rides("room 2;bearer 0 1", 1, 0, 1, 7, 0);
    Edges.run("{room 2;bearer 0 1} step(1) cabin(7,4)=0 person(0,6)=2 step(1) cabin(7,4)=2 person(0,3)=2 person(0,6)=2");
    Edges.run("{room 3;bearer 0 1;bearer 0 1} step(1) cabin(7,3)=1 cabin(7,4)=1");
    Edges.run("{room 3;bearer 0 1;plain 0 1} step(1) cabin(7,3)=3 cabin(7,4)=0");
    rides("bearer 1 2;shut 0", 1, 0, 0, -1, 0);
  }

  private static void idler() {
    Edges.says("IDLER: WILL only if one has RIDDEN 2 f STEPS or more; looks at the one going up, then at the other; TAKES 1.");
    // From 1 to 0 one is at TO with 4 and 5 ridden, which is one too few, and then with 10.
    rides("hall 3;idler 1 0", 6, 0, 1, 0, 5);
    rides("hall 3;idler 1 0", 10, 0, 1, 0, 9);
    rides("hall 3;idler 1 0", 11, 0, 2, -1, 10);
    // From 0 to 1 one is at TO with 7 ridden, one step behind the least.
    rides("hall 3;idler 0 1", 7, 0, 1, 5, 6);
    rides("hall 3;idler 0 1", 8, 0, 2, -1, 7);
    rides("hall 2;idler 0 1", 5, 0, 1, 3, 4);
    rides("hall 2;idler 0 1", 6, 0, 2, -1, 5);
    rides("hall 7;idler 0 1", 16, 0, 2, -1, 15);
    rides("hall 3;idler 2 0", 1, 0, 1, 1, 0);
    rides("hall 3;idler 1 2", 1, 0, 1, 0, 0);
    rides("hall 3;idler 2 0;shut 1", 1, 0, 1, 2, 0);
    rides("hall 3;idler 1 2;shut 0", 1, 0, 1, 3, 0);
    rides("hall 3;idler 2 0;shut 1;shut 2", 1, 0, 0, -1, 0);
    rides("hall 3;room 1;idler 1 2;idler 1 2", 1, 1, 1, 3, 0);
    Edges.run("{room 2;idler 1 2;idler 1 2} step(1) cabin(0,3)=3 cabin(0,4)=0 person(0,6)=1");
  }

  private static void hasty() {
    Edges.says("HASTY: as IDLER, but WILL always, and looks at the one of WAY ahead of the other.");
    rides("hall 3;hasty 1 0", 1, 0, 1, 3, 0);
    rides("hall 3;hasty 1 0", 2, 0, 2, -1, 1);
    rides("hall 3;hasty 1 2", 1, 0, 1, 0, 0);
    rides("hall 3;hasty 1 2", 2, 0, 2, -1, 1);
    // Over the top to what is below, under the bottom to what is above.
    rides("hall 3;hasty 1 0;shut 3", 1, 0, 1, 0, 0);
    rides("hall 3;hasty 1 0;shut 3", 5, 0, 2, -1, 4);
    rides("hall 3;hasty 1 2;shut 0", 1, 0, 1, 3, 0);
    rides("hall 3;hasty 1 2;shut 0", 5, 0, 2, -1, 4);
    rides("hall 3;hasty 1 2;shut 0;shut 3", 1, 0, 0, -1, 0);
    rides("hall 3;room 1;hasty 1 2;hasty 1 2", 1, 1, 1, 3, 0);
    Edges.run("{room 2;hasty 1 2;hasty 1 2} step(1) cabin(0,3)=3 cabin(0,4)=0 person(0,6)=1");
  }

  private static void kinds() {
    Edges.says("KINDS are over one another: PERSON (0); PLAIN (1) and IDLER (4), each under PERSON; TIMID (2) is PLAIN; BEARER (3) is PLAIN; HASTY (5) is IDLER.");
    Edges.run("{" + KINDS + "} as(0,0)=1 as(0,1)=1 as(0,2)=NOT as(0,3)=NOT as(0,4)=NOT as(0,5)=NOT");
    Edges.run("{" + KINDS + "} as(1,0)=1 as(1,1)=1 as(1,2)=1 as(1,3)=NOT as(1,4)=NOT as(1,5)=NOT");
    Edges.run("{" + KINDS + "} as(2,0)=2 as(2,1)=2 as(2,2)=NOT as(2,3)=2 as(2,4)=NOT as(2,5)=NOT");
    Edges.run("{" + KINDS + "} as(3,0)=1 as(3,1)=NOT as(3,2)=NOT as(3,3)=NOT as(3,4)=1 as(3,5)=NOT");
    Edges.run("{" + KINDS + "} as(4,0)=1 as(4,1)=NOT as(4,2)=NOT as(4,3)=NOT as(4,4)=1 as(4,5)=1");
  }

  private static void shutAndStairs() {
    Edges.says("SHUT: a CABIN is SHUT, or no more (who RIDES in it RIDES on, and gets out).");
    Edges.run("{plain 0 3} step(1) shut(7)=1 person(0,3)=1 person(0,4)=7 cabin(7,3)=1 step(2) person(0,3)=1 person(0,5)=2 step(1) person(0,3)=2 person(0,5)=3");
    Edges.run("{room 1;plain 0 3;plain 1 3} step(1) shut(7)=1 step(12) count(5)=3");
    Edges.run("{plain 0 3} shut(7)=1 step(1) person(0,3)=0 undo() shut(7)=0 step(1) person(0,4)=7");
    Edges.run("{plain 0 3;shut 7} shut(7)=0 step(1) person(0,4)=7");
    Edges.says("STAIRS: one who WAITS is THERE.");
    Edges.run("{plain 0 3} stairs(0)=0 person(0,3)=2 person(0,4)=NONE person(0,5)=0 step(12) person(0,3)=2 person(0,5)=0 " + Edges.each("cabin(", 8, ",3)=0"));
    Edges.run("{room 1;plain 0 3;plain 0 3} stairs(0)=1 step(1) person(1,4)=7");
  }

  private static void person() {
    Edges.promise(6);
    Edges.says("Of a PERSON: KIND (what 0), FROM (1), TO (2), 0 WAITS, 1 RIDES, 2 THERE (3), the CABIN (4; NONE),");
    Edges.run("{hall 7;hasty 6 0} person(0,0)=4 person(0,1)=6 person(0,2)=0 person(0,3)=0 person(0,4)=NONE");
    Edges.run("{hall 7;hasty 6 0} step(1) person(0,0)=4 person(0,1)=6 person(0,2)=0 person(0,3)=1 person(0,4)=6");
    Edges.run("{hall 7;hasty 6 0} step(7) person(0,0)=4 person(0,1)=6 person(0,2)=0 person(0,3)=2 person(0,4)=NONE");
    Edges.run("{hall 7;plain 1 2} step(1) person(0,4)=0");
    Edges.run("{hall 7;plain 0 1} step(1) person(0,4)=13");
    Edges.says("how many STEPS one has RIDDEN (5; 0, if one WAITS; as many as it was, THERE), how much ROOM one TAKES (6).");
    Edges.run("{plain 0 2;shut 7} person(0,5)=0 step(1) person(0,5)=0 step(1) person(0,3)=1 person(0,5)=0 step(1) person(0,5)=1 step(1) person(0,3)=2 person(0,5)=2 step(12) person(0,5)=2");
    // An idler with one open cabin in a house of 7: 15 steps, and then no more.
    Edges.run("{hall 7;idler 0 1} step(12) person(0,5)=11 step(12) person(0,3)=2 person(0,5)=15 step(12) person(0,5)=15");
    Edges.run("{" + KINDS + "} person(0,6)=1 person(1,6)=1 person(2,6)=2 person(3,6)=1 person(4,6)=1");
    Edges.says("UNKNOWN; OUTSIDE.");
    Edges.still("", "person(0,0)=UNKNOWN", "person(-1,0)=UNKNOWN", "person(0,7)=UNKNOWN", "person(0,-1)=UNKNOWN");
    Edges.still(SCENE, "person(4,0)=UNKNOWN", "person(-1,0)=UNKNOWN", "person(8,0)=UNKNOWN", "person(MIN,0)=UNKNOWN", "person(MAX,0)=UNKNOWN");
    Edges.still(SCENE, "person(4,7)=UNKNOWN", "person(-1,-1)=UNKNOWN", "person(0,7)=OUTSIDE", "person(3,-1)=OUTSIDE", "person(0,MIN)=OUTSIDE", "person(0,MAX)=OUTSIDE");
    Edges.still(SCENE, "person(3,0)=3", "person(0,6)=1", "person(2,6)=2");
    Edges.run("{" + EIGHT + "} person(7,0)=0 person(8,0)=UNKNOWN person(7,6)=1 person(7,7)=OUTSIDE");
  }

  private static void cabin() {
    Edges.promise(7);
    Edges.says("Of a CABIN: 1 it is SHUT, 0 (what 0), the PLACE (1), the FLOOR (2), who RIDES in it (3, bits), how much ROOM is left (4).");
    Edges.run("{shut 7} cabin(7,0)=1 cabin(0,0)=0 cabin(7,1)=7 cabin(7,2)=0 cabin(7,3)=0 cabin(7,4)=2 step(1) cabin(7,0)=1 cabin(7,1)=0 cabin(7,2)=0");
    Edges.run("{" + EIGHT + "} step(1) cabin(3,3)=15 cabin(3,4)=0 cabin(2,3)=0 cabin(2,4)=4 step(1) cabin(3,3)=0 cabin(3,4)=4 cabin(2,3)=240 cabin(2,4)=0");
    Edges.run("{room 4;bearer 0 3;plain 0 2} step(1) cabin(7,3)=3 cabin(7,4)=1 step(2) cabin(7,3)=1 cabin(7,4)=2 step(1) cabin(7,3)=0 cabin(7,4)=4");
    Edges.run("{room 1;plain 0 3} step(1) shut(7) cabin(7,0)=1 cabin(7,3)=1 cabin(7,4)=0");
    Edges.says("UNKNOWN; OUTSIDE.");
    Edges.still("", "cabin(8,0)=UNKNOWN", "cabin(-1,0)=UNKNOWN", "cabin(8,5)=UNKNOWN", "cabin(7,5)=OUTSIDE", "cabin(7,-1)=OUTSIDE", "cabin(7,4)=2", "cabin(0,0)=0");
    Edges.still(SCENE, "cabin(10,0)=UNKNOWN", "cabin(-1,4)=UNKNOWN", "cabin(14,0)=UNKNOWN", "cabin(32,0)=UNKNOWN", "cabin(MIN,0)=UNKNOWN", "cabin(MAX,0)=UNKNOWN");
    Edges.still(SCENE, "cabin(10,5)=UNKNOWN", "cabin(-1,-1)=UNKNOWN", "cabin(9,5)=OUTSIDE", "cabin(0,-1)=OUTSIDE", "cabin(0,MIN)=OUTSIDE", "cabin(0,MAX)=OUTSIDE");
    Edges.still(SCENE, "cabin(9,0)=1", "cabin(9,4)=1", "cabin(0,0)=0", "cabin(0,4)");
  }

  private static void as() {
    Edges.promise(8);
    Edges.says("A PERSON taken as a KIND (0 .. 5, as they are over one another): how much ROOM one TAKES.");
    Edges.run("{" + KINDS + "} as(0,0)=1 as(2,0)=2 as(2,1)=2 as(2,3)=2 as(4,5)=1");
    Edges.run("{" + KINDS + "} as(0,-1)=OUTSIDE as(0,6)=OUTSIDE as(4,6)=OUTSIDE as(4,-1)=OUTSIDE");
    Edges.run("{" + EIGHT + "} as(7,1)=1 as(8,1)=UNKNOWN");
    Edges.says("UNKNOWN; OUTSIDE; NOT: one is none such.");
    Edges.still("", "as(0,0)=UNKNOWN", "as(0,6)=UNKNOWN", "as(-1,0)=UNKNOWN");
    Edges.still(SCENE, "as(4,0)=UNKNOWN", "as(-1,0)=UNKNOWN", "as(4,6)=UNKNOWN", "as(-1,-1)=UNKNOWN", "as(MIN,MIN)=UNKNOWN", "as(MAX,0)=UNKNOWN", "as(4,5)=UNKNOWN");
    Edges.still(SCENE, "as(0,6)=OUTSIDE", "as(0,-1)=OUTSIDE", "as(3,MIN)=OUTSIDE", "as(3,MAX)=OUTSIDE");
    Edges.still(SCENE, "as(0,2)=NOT", "as(0,5)=NOT", "as(1,3)=NOT", "as(2,2)=NOT", "as(3,1)=NOT", "as(3,5)=NOT", "as(3,4)=1", "as(1,2)=1");
  }

  private static void step() {
    Edges.promise(9);
    Edges.says("STEPS (n 1 .. 12, together they are undone): how many there were.");
    Edges.run("step(1)=1 count(2)=1 step(12)=13 count(2)=13 count(10)=2 undo()=1 count(2)=1 undo()=0 count(2)=0");
    Edges.run("{plain 0 3} step(12)=12 person(0,3)=2 undo()=0 count(2)=0 person(0,3)=0 undo()=NOT");
    Edges.run("{plain 0 3} step(2)=2 step(2)=4 person(0,3)=2 undo()=1 person(0,3)=1 person(0,5)=1 count(2)=2");
    Edges.says("OUTSIDE; FULL: it would be above 999.");
    String[] outside = {"step(0)=OUTSIDE", "step(13)=OUTSIDE", "step(-1)=OUTSIDE", "step(MIN)=OUTSIDE", "step(MAX)=OUTSIDE"};
    Edges.still(SCENE, outside);
    Edges.run("step(12)*82 step(12)=996 step(4)=FULL step(3)=999 step(1)=FULL count(2)=999");
    Edges.run("step(12)*82 step(4)=988 step(12)=FULL step(11)=999");
    Edges.run("step(12)*82 step(3)=987 step(12)=999 step(12)=FULL");
    Edges.still("{plain 0 3;room 1;bearer 0 1} step(12)*83 keep(0)", "step(4)=FULL", "step(12)=FULL", "step(13)=OUTSIDE", "step(0)=OUTSIDE");
    Edges.still("{plain 0 3;room 1;bearer 0 1} step(12)*83 step(3)", "step(1)=FULL", "step(12)=FULL");
    Edges.still("step(12)*83 step(3)", outside);
    // What is undone can be done again.
    Edges.run("step(12)*83 step(3)=999 step(1)=FULL undo()=7 step(4)=FULL step(3)=999");
  }

  private static void shut() {
    Edges.promise(10);
    Edges.says("SHUT: 1 it is then, 0.");
    Edges.run("shut(0)=1 count(6)=1 shut(0)=0 count(6)=0 shut(7)=1 count(6)=128 shut(0)=1 count(6)=129 count(10)=4");
    Edges.run("{hall 7;shut 13} shut(13)=0 count(6)=0 shut(13)=1 count(6)=8192");
    Edges.run("{hall 2} shut(3)=1 shut(2)=1 shut(1)=1 shut(0)=1 count(6)=15 shut(1)=0 count(6)=13");
    Edges.says("UNKNOWN.");
    Edges.still("", "shut(8)=UNKNOWN", "shut(-1)=UNKNOWN");
    Edges.still(SCENE, "shut(10)=UNKNOWN", "shut(-1)=UNKNOWN", "shut(13)=UNKNOWN", "shut(32)=UNKNOWN", "shut(MIN)=UNKNOWN", "shut(MAX)=UNKNOWN");
    Edges.run("{hall 7} shut(13)=1 shut(14)=UNKNOWN {hall 2} shut(3)=1 shut(4)=UNKNOWN");
  }

  private static void stairs() {
    Edges.promise(11);
    Edges.says("STAIRS: how many WAIT yet.");
    Edges.run("{" + EIGHT + "} stairs(7)=7 stairs(0)=6 stairs(3)=5 count(3)=118 count(5)=137 stairs(1)=4 stairs(2)=3 stairs(4)=2 stairs(5)=1 stairs(6)=0 count(5)=255");
    Edges.run("{room 1;plain 0 3;plain 0 3;plain 0 3} step(1) stairs(2)=1 count(4)=1 count(3)=2 count(5)=4 stairs(1)=0");
    Edges.says("UNKNOWN; NOT: one does not WAIT.");
    Edges.still("", "stairs(0)=UNKNOWN", "stairs(-1)=UNKNOWN");
    Edges.still(SCENE, "stairs(4)=UNKNOWN", "stairs(-1)=UNKNOWN", "stairs(8)=UNKNOWN", "stairs(MIN)=UNKNOWN", "stairs(MAX)=UNKNOWN");
    Edges.still(SCENE + "person(0,3)=2 person(3,3)=1", "stairs(0)=NOT", "stairs(3)=NOT");
    Edges.still(SCENE + "stairs(2)=0", "stairs(2)=NOT");
    Edges.run("{" + EIGHT + "} stairs(7)=7 stairs(8)=UNKNOWN stairs(7)=NOT undo()=0 stairs(7)=7");
  }

  private static void undo() {
    Edges.promise(12);
    Edges.says("The latest step(), shut(), stairs() is undone (the last 8 can be): how many can be undone yet.");
    Edges.run("{plain 0 3;plain 3 0} shut(0)=1 stairs(1)=1 step(2)=2 undo()=2 count(2)=0 count(4)=0 count(5)=2 undo()=1 count(5)=0 count(6)=1 undo()=0 count(6)=0");
    Edges.run("step(1)*7 count(10)=7 step(1)=8 count(10)=8 undo()=7 undo()=6 undo()=5 undo()=4 undo()=3 undo()=2 undo()=1 undo()=0 count(2)=0 undo()=NOT");
    Edges.run("step(1)*9 count(10)=8 undo()=7 count(2)=8 undo()*6 undo()=0 count(2)=1 undo()=NOT count(2)=1");
    // Round and round: what is done behind an undoing takes its place.
    Edges.run("step(1)*30 count(10)=8 undo()*3 count(2)=27 count(10)=5 step(2)=29 count(10)=6 step(2)=31 step(2)=33 count(10)=8 step(2)=35 count(10)=8 "
      + "undo()=7 count(2)=33 undo()=6 count(2)=31 undo()=5 count(2)=29 undo()=4 count(2)=27 undo()=3 count(2)=26 undo()=2 count(2)=25 undo()=1 count(2)=24 undo()=0 count(2)=23 undo()=NOT");
    Edges.run("{" + EIGHT + "} " + Edges.each("stairs(", 8, ")") + "count(10)=8 shut(0)=1 count(10)=8 undo()=7 undo()*6 undo()=0 count(5)=1 undo()=NOT count(5)=1");
    // What was refused, what is looked at, and what is not of these three takes no place.
    Edges.run("step(1)=1 step(0) step(13) shut(99) stairs(99) keep(0) seen(0,1,2) notes(0) write(97) all() order(-1) jam(0) count(10)=1 undo()=0 count(2)=0 count(8)=1 count(11)=1 drop(0)=0");
    Edges.says("NOT: none.");
    Edges.still("", "undo()=NOT");
    Edges.still("{plain 0 1}", "undo()=NOT");
    Edges.still(SCENE + "undo()=2 undo()=1 undo()=0", "undo()=NOT");
    Edges.still("step(1)*12 undo()*8", "undo()=NOT");
    Edges.still(SCENE + "back(0)", "undo()=NOT");
  }

  private static void keep() {
    Edges.promise(13);
    Edges.says("The house as it is now is kept (k 0, 1): STEPS.");
    Edges.run("keep(0)=0 step(5) keep(1)=5 step(1) keep(0)=6 back(1)=5 back(0)=6 count(2)=6");
    Edges.run("step(12)*83 step(3) keep(1)=999 undo() back(1)=999 step(1)=FULL");
    Edges.run("{plain 0 3;plain 3 0} step(2) shut(4) stairs(0)=NOT keep(0)=2 shut(5) step(9) count(5)=3 back(0)=2 count(4)=3 count(5)=0 count(6)=16 person(0,4)=7 person(0,5)=1");
    Edges.run("shut(0) keep(0)=0 count(10)=1 undo()=0 count(6)=0 back(0)=0 count(6)=1");
    Edges.run("keep(0) keep(1) step(1) keep(1)=1 back(0)=0 back(1)=1");
    Edges.says("UNKNOWN: no such k.");
    Edges.still("", "keep(2)=UNKNOWN", "keep(-1)=UNKNOWN");
    Edges.still(SCENE, "keep(2)=UNKNOWN", "keep(-1)=UNKNOWN", "keep(MIN)=UNKNOWN", "keep(MAX)=UNKNOWN");
  }

  private static void back() {
    Edges.promise(14);
    Edges.says("It is as it was kept, nothing can be undone: STEPS.");
    Edges.run("step(3) keep(0) step(4)=7 count(10)=2 back(0)=3 count(10)=0 undo()=NOT count(2)=3");
    Edges.run("keep(0) back(0)=0 back(0)=0 step(1)=1 count(10)=1 back(0)=0 undo()=NOT step(2)=2 undo()=0");
    Edges.run("step(1)*8 keep(1)=8 back(1)=8 count(10)=0 step(1)=9 count(10)=1 undo()=0 count(2)=8 undo()=NOT");
    Edges.run("{plain 0 3;room 1;bearer 0 1} keep(1) step(2) stairs(1) shut(2) back(1)=0 count(3)=3 count(4)=0 count(5)=0 count(6)=0 person(0,4)=NONE person(0,5)=0");
    Edges.run("keep(0) seen(0,1,2) notes(1) write(97) back(0)=0 count(8)=1 count(11)=1 drop(1)=0");
    Edges.says("UNKNOWN; NOT: nothing was kept since the last text.");
    Edges.still("", "back(0)=NOT", "back(1)=NOT", "back(2)=UNKNOWN", "back(-1)=UNKNOWN");
    Edges.still("step(2) keep(0) step(1)", "back(1)=NOT", "back(2)=UNKNOWN", "back(-1)=UNKNOWN");
    Edges.still("step(2) keep(1) step(1)", "back(0)=NOT");
    Edges.still(SCENE, "back(2)=UNKNOWN", "back(-1)=UNKNOWN", "back(MIN)=UNKNOWN", "back(MAX)=UNKNOWN");
    Edges.still("keep(0) keep(1) {room 1} step(1)", "back(0)=NOT", "back(1)=NOT", "back(2)=UNKNOWN");
    // A text that was refused is none that was told.
    Edges.run("step(1) keep(0) 'hall 9' hall()=NOT step(1) back(0)=1 erase() back(0)=1");
    Edges.run("keep(0) {room 1} keep(0)=0 step(1) back(0)=0 back(1)=NOT");
  }
}
