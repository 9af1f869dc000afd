/** The sentences of part 1 on floors, cabins, people. */
final class FloorEdges {
  /** At which floor each place of the ring is, by how many floors there are. */
  private static final int[][] RINGS = {
    {}, {}, {0, 1, 1, 0}, {0, 1, 2, 2, 1, 0}, {0, 1, 2, 3, 3, 2, 1, 0}, {0, 1, 2, 3, 4, 4, 3, 2, 1, 0},
    {0, 1, 2, 3, 4, 5, 5, 4, 3, 2, 1, 0}, {0, 1, 2, 3, 4, 5, 6, 6, 5, 4, 3, 2, 1, 0}};
  private static final String EIGHT = "plain 0 1;timid 0 1;bearer 0 1;idler 0 1;hasty 0 1;plain 1 0;plain 2 3;plain 3 2";

  private FloorEdges() { }

  static void all() {
    calls();
    floors();
    ring();
    goingRound();
    cabins();
    people();
    newObject();
  }

  private static void calls() {
    Edges.section("What it is");
    Edges.says("An object is used for at most 512 calls after it has been made;");
    Edges.run("{hall 2;plain 0 1} count(0)*493 step(1)=1 count(4)=1");
    Edges.run("step(12)*83 step(3)=999 undo()=7 count(2)=996 count(2)*425 step(3)=999");
  }

  private static void floors() {
    Edges.says("1 FLOORS are 0 .. f less 1 (f 2 ..");
    Edges.run("{hall 2} count(0)=2");
    Edges.fault("hall 1", 5);
    Edges.fault("hall 0", 5);
    for (int f = 2; f <= 7; f++) {
      int top = f - 1;
      Edges.sound("hall " + f + ";plain 0 " + top, "hall " + f + ";plain " + top + " 0");
      Edges.fault("hall " + f + ";plain 0 " + f, 15);
      Edges.fault("hall " + f + ";plain " + f + " 0", 13);
      Edges.run("{hall " + f + "} seen(0," + top + ",1)=1 seen(" + top + ",0,1)=2 seen(0," + f + ",1)=OUTSIDE seen(" + f + ",0,1)=OUTSIDE");
      Edges.run("{hall " + f + "} seen(-1,0,1)=OUTSIDE seen(0,-1,1)=OUTSIDE");
    }
    Edges.section("Terms");
    Edges.says("7; 4 at first).");
    Edges.run("count(0)=4 cabin(7,0)=0 cabin(8,0)=UNKNOWN seen(3,0,1)=1 seen(4,0,1)=OUTSIDE");
    Edges.run("{hall 7} count(0)=7");
    Edges.fault("hall 8", 5);
    Edges.fault("hall 9", 5);
    Edges.fault("hall 10", 5);
    Edges.fault("hall 99", 5);
  }

  private static void ring() {
    Edges.says("THE RING has PLACES 0 .. 2 f less 1: PLACE p below f is at FLOOR p, going up; from f on at FLOOR 2 f less 1 less p, going down.");
    for (int f = 2; f <= 7; f++) {
      StringBuilder script = new StringBuilder("{hall " + f + "}");
      for (int p = 0; p < 2 * f; p++) { script.append(" cabin(" + p + ",1)=" + p + " cabin(" + p + ",2)=" + RINGS[f][p]); }
      Edges.run(script.toString());
      // Behind one step cabin p stands where p + 1 was; who goes up steps in on the way up, who goes down on the way down.
      int top = f - 1, lowestDown = 2 * f - 1;
      Edges.run("{hall " + f + ";plain 0 1} step(1) person(0,4)=" + lowestDown);
      Edges.run("{hall " + f + ";plain 1 0} step(1) person(0,4)=" + (2 * f - 3));
      Edges.run("{hall " + f + ";plain " + top + " 0} step(1) person(0,4)=" + top);
      Edges.run("{hall " + f + ";plain " + (top - 1) + " " + top + "} step(1) person(0,4)=" + (top == 1 ? lowestDown : top - 2));
    }
  }

  private static void goingRound() {
    Edges.says("behind t STEPS CABIN k is at the PLACE that k and t are together, by 2 f what is left over.");
    // Under the bottom, and over the top.
    Edges.run("{hall 3} step(1) cabin(4,1)=5 cabin(4,2)=0 cabin(5,1)=0 cabin(5,2)=0 cabin(0,1)=1 cabin(0,2)=1");
    Edges.run("{hall 3} step(1) cabin(1,1)=2 cabin(1,2)=2 cabin(2,1)=3 cabin(2,2)=2 cabin(3,1)=4 cabin(3,2)=1");
    Edges.run("{hall 3} step(5) cabin(0,1)=5 cabin(1,1)=0 cabin(5,1)=4 step(1) cabin(0,1)=0 cabin(1,1)=1 cabin(5,1)=5 step(1) cabin(0,1)=1 cabin(5,1)=0");
    Edges.run("{hall 2} step(3) cabin(0,1)=3 cabin(1,1)=0 step(1) cabin(0,1)=0 cabin(3,1)=3");
    Edges.run("{hall 7} step(12) step(1) cabin(0,1)=13 cabin(1,1)=0 step(1) cabin(0,1)=0 cabin(13,1)=13");
    // 999 is 71 times 14 and 5, 249 times 4 and 3.
    Edges.run("{hall 7} step(12)*83 step(3)=999 cabin(0,1)=5 cabin(8,1)=13 cabin(9,1)=0 cabin(13,1)=4 cabin(13,2)=4 cabin(8,2)=0");
    Edges.run("{hall 2} step(12)*83 step(3)=999 cabin(0,1)=3 cabin(1,1)=0 cabin(2,1)=1 cabin(3,1)=2");
  }

  private static void cabins() {
    Edges.says("CABINS are as many, 0 on;");
    for (int f = 2; f <= 7; f++) {
      int last = 2 * f - 1, beyond = 2 * f;
      Edges.run("{hall " + f + "} cabin(0,0)=0 cabin(" + last + ",0)=0 cabin(" + beyond + ",0)=UNKNOWN cabin(-1,0)=UNKNOWN");
      Edges.run("{hall " + f + "} shut(0)=1 shut(" + last + ")=1 shut(" + beyond + ")=UNKNOWN shut(-1)=UNKNOWN count(6)=" + (1 | 1 << last));
    }
    Edges.says("Each has ROOM (1 .. 4; 2 at first, the same for all);");
    Edges.run("count(7)=2 " + Edges.each("cabin(", 8, ",4)=2"));
    for (int room = 1; room <= 4; room++) { Edges.run("{hall 7;room " + room + "} count(7)=" + room + " " + Edges.each("cabin(", 14, ",4)=" + room)); }
    Edges.fault("room 0", 5);
    Edges.fault("room 5", 5);
    Edges.run("{room 3} " + Edges.each("cabin(", 8, ",4)=3") + "step(12) " + Edges.each("cabin(", 8, ",4)=3"));
    Edges.says("some may be SHUT.");
    Edges.run("count(6)=0 " + Edges.each("cabin(", 8, ",0)=0"));
    Edges.run(Edges.each("shut(", 8, ")=1") + "count(6)=255 " + Edges.each("cabin(", 8, ",0)=1"));
    Edges.run("{hall 7} " + Edges.each("shut(", 14, ")=1") + "count(6)=16383 cabin(13,0)=1 cabin(0,0)=1");
  }

  private static void people() {
    Edges.says("PEOPLE are 0, 1 .., 8 at most (none at first),");
    Edges.run("count(1)=0 person(0,0)=UNKNOWN person(-1,0)=UNKNOWN count(3)=0 count(4)=0 count(5)=0");
    Edges.run("{plain 0 1} count(1)=1 person(0,0)=0 person(1,0)=UNKNOWN person(-1,0)=UNKNOWN");
    Edges.run("{" + EIGHT + "} count(1)=8 person(7,1)=3 person(8,1)=UNKNOWN person(-1,1)=UNKNOWN count(3)=255");
    Edges.fault(EIGHT + ";plain 0 1", EIGHT.length() + 1);
    Edges.says("of a KIND, 0 PLAIN, 1 TIMID, 2 BEARER, 3 IDLER, 4 HASTY, FROM a FLOOR, TO another one;");
    Edges.run("{" + EIGHT + "} person(0,0)=0 person(1,0)=1 person(2,0)=2 person(3,0)=3 person(4,0)=4 person(5,0)=0");
    Edges.run("{" + EIGHT + "} person(0,1)=0 person(0,2)=1 person(5,1)=1 person(5,2)=0 person(6,1)=2 person(6,2)=3 person(7,1)=3 person(7,2)=2");
    Edges.fault("plain 0 0", 8);
    Edges.fault("hasty 3 3", 8);
    Edges.says("each WAITS (on FROM), RIDES in a CABIN, or is THERE.");
    Edges.run("{plain 0 2} person(0,3)=0 step(1) person(0,3)=1 person(0,4)=7 step(1) person(0,3)=1 step(1) person(0,3)=2 person(0,4)=NONE");
    Edges.run("{plain 0 2;room 1;bearer 0 1} step(1) count(3)=2 count(4)=1 count(5)=0 step(2) count(3)=2 count(4)=0 count(5)=1");
  }

  private static void newObject() {
    Edges.promise(1);
    Edges.says("Four floors, nobody.");
    int[] counts = {4, 0, 0, 0, 0, 0, 0, 2, 0, 0, 0, 0};
    for (int what = 0; what < 12; what++) { Edges.run("count(" + what + ")=" + counts[what]); }
    Edges.run("person(0,0)=UNKNOWN undo()=NOT back(0)=NOT back(1)=NOT drop(0)=NULL drop(1)=NULL drop(2)=NULL");
    Edges.run("fault()=0 erase()=0 forget()=0 kinds()=31 all()=0 hall()=NOT " + Edges.each("cabin(", 8, ",3)=0"));
    Edges.run("'plain 0 3' hall()=1 count(1)=1");
  }
}
