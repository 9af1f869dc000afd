/** The sentences of part 3, and promises 15 to 25: what is foretold, and what was seen. */
final class ForetoldEdges {
  private static final String SCENE = RideEdges.SCENE;
  private static final String EIGHT = "hall 2;room 4" + ";plain 0 1".repeat(8);
  /** Cabin 2 of 14 is at floor 0, going up, behind 12, 26, 40, 54, and at floor 6 six steps farther; cabin 1 a step later. */
  private static final String FOUR = "hall 7;room 1" + ";plain 0 6".repeat(4);
  /** The bearers fill the only cabin four times; the two others get in at the fifth. */
  private static final String SIX = "hall 7" + ";bearer 0 6".repeat(4) + ";plain 0 6;plain 0 6";

  private ForetoldEdges() { }

  static void all() {
    Edges.section("Terms");
    nothingChanges();
    arrivesAll();
    meets();
    jams();
    orders();
    seenKinds();
    asked();
    dared();
    behind();
    arrives();
    all17();
    meet();
    jam();
    order();
    dares();
    seen();
    forget();
    kinds();
    ask();
  }

  /** A house in which some cabins alone are open. */
  private static String open(String text, int... cabins) {
    int floors = text.startsWith("hall ") ? text.charAt(5) - '0' : 4;
    int bits = 0;
    for (int c : cabins) { bits |= 1 << c; }
    StringBuilder b = new StringBuilder("{" + text + "} ");
    for (int c = 0; c < 2 * floors; c++) { if ((bits >> c & 1) == 0) { b.append("shut(").append(c).append(") "); } }
    return b.toString();
  }

  private static void nothingChanges() {
    Edges.says("3 FORETOLD (nothing changes), nothing but STEPS being done from now.");
    Edges.still(SCENE, "behind(0,60,3)", "behind(2,0,4)", "arrives(3)", "all()", "meet(0,1)", "jam(0)", "jam(1)", "order(-1)", "order(0)", "dares(2,5,8,0)");
    Edges.still("{" + EIGHT + "} step(1)", "behind(7,60,3)", "arrives(7)", "all()", "meet(6,7)", "jam(0)", "jam(1)", "order(-1)", "order(5)", "dares(7,5,8,1)");
    // From now on, and beyond the 999 steps that can be done.
    Edges.run("{plain 0 3} arrives(0)=4 step(1) arrives(0)=3 step(3) arrives(0)=0 step(1) arrives(0)=0 undo() undo() arrives(0)=3");
    String late = open("hall 2;plain 0 1") + "step(12)*83 step(3)=999 shut(0) shut(1) shut(2) shut(3) ";
    Edges.run(late + "behind(0,1,3)=1 behind(0,2,3)=2 behind(0,60,5)=1 arrives(0)=2 all()=2 order(-1)=2 dares(0,0,1,0)=1 count(2)=999");
  }

  private static void arrivesAll() {
    Edges.says("ARRIVES of one: behind how many STEPS (0 .. 60) one is THERE; none.");
    Edges.run("{plain 0 1} arrives(0)=2 stairs(0) arrives(0)=0");
    Edges.run(open(FOUR, 2) + "arrives(0)=18 arrives(1)=32 arrives(2)=46 arrives(3)=60");
    Edges.run(open(FOUR, 1) + "arrives(0)=19 arrives(1)=33 arrives(2)=47 arrives(3)=NONE step(1) arrives(3)=60 step(12) arrives(3)=48");
    Edges.run("{room 1;bearer 0 1} arrives(0)=NONE");
    Edges.run(open("plain 0 1") + "arrives(0)=NONE");
    Edges.says("ALL: behind how many (0 .. 60) all are THERE; none.");
    Edges.run("all()=0");
    Edges.run("{plain 0 1;plain 0 3} all()=4 step(2) all()=2 step(2) all()=0 step(12) all()=0");
    Edges.run(open(FOUR, 2) + "all()=60 step(1) all()=59");
    Edges.run(open(FOUR, 1) + "all()=NONE step(1) all()=60");
    Edges.run("{room 1;bearer 0 1;plain 0 1} all()=NONE stairs(0) all()=2 stairs(1) all()=0");
  }

  private static void meets() {
    Edges.says("MEET of two: behind the first of how many (0 .. 60) both RIDE in one CABIN; none.");
    Edges.run("{plain 0 3;plain 0 2} meet(0,1)=1 meet(1,0)=1 step(1) meet(0,1)=0 step(1) meet(0,1)=0 step(1) meet(0,1)=NONE");
    Edges.run("{plain 0 3;plain 1 2;shut 0} meet(0,1)=2 step(1) meet(0,1)=1 step(1) meet(0,1)=0");
    Edges.run(open(SIX, 10) + "meet(4,5)=60 meet(0,4)=NONE step(1) meet(4,5)=59");
    Edges.run(open(SIX, 9) + "meet(4,5)=NONE step(1) meet(4,5)=60");
    // The first cabin and the last one.
    Edges.run("{plain 1 2;plain 1 3} meet(0,1)=1 step(1) person(0,4)=0 meet(0,1)=0");
    Edges.run("{hall 7;plain 0 1;plain 0 1} meet(0,1)=1 step(1) person(0,4)=13 meet(0,1)=0");
    // Neither who waits nor who is there is in a cabin; who gets out has gone ahead of who steps in.
    Edges.run(open("plain 0 1;plain 0 1") + "meet(0,1)=NONE stairs(0) stairs(1) meet(0,1)=NONE");
    Edges.run("{room 1;plain 0 1;plain 1 3;shut 0} meet(0,1)=NONE");
    Edges.run("{room 2;plain 0 1;plain 1 3;shut 0} meet(0,1)=NONE");
    Edges.run("{plain 0 3;plain 3 0} meet(0,1)=NONE");
  }

  private static void jams() {
    Edges.says("JAM: the CABIN, not SHUT, which, were it SHUT now, makes ALL come last (none is later than any);");
    Edges.run("{hall 2;plain 0 1} jam(0)=3 jam(1)=3 shut(3) jam(0)=2 jam(1)=4");
    Edges.run(open(FOUR, 2, 12) + "jam(0)=12 jam(1)=60");
    // Without 1 they are there behind 50, without 12 one never is.
    Edges.run(open(FOUR, 1, 12) + "jam(0)=12 jam(1)=NONE");
    // Who rides in it rides on, so that no cabin makes it longer.
    Edges.run("{plain 0 3} step(1) jam(0)=0 jam(1)=3");
    Edges.says("of several the first;");
    Edges.run("jam(0)=0 jam(1)=0 shut(0) jam(0)=1 jam(1)=0");
    Edges.run("{hall 2;plain 0 1;plain 1 0} jam(0)=1 jam(1)=3");
    Edges.run("{room 1;bearer 0 1} jam(0)=0 jam(1)=NONE shut(0) shut(1) jam(0)=2 jam(1)=NONE");
    Edges.run(open("plain 0 1", 7) + "jam(0)=7 jam(1)=NONE");
    Edges.run(open("plain 0 1", 6, 7) + "jam(0)=7 jam(1)=3");
    Edges.says("none: there is none that is not SHUT.");
    Edges.run(open("plain 0 1") + "jam(0)=NONE jam(1)=NONE");
    Edges.run(open("hall 7") + "jam(0)=NONE jam(1)=NONE shut(13) jam(0)=13 jam(1)=0 shut(0) jam(0)=0");
    Edges.run("{plain 0 3} step(1) " + Edges.each("shut(", 8, ")=1") + "all()=3 jam(0)=NONE jam(1)=NONE");
  }

  private static void orders() {
    Edges.says("ORDER of those who WAIT now (6 at most): in which order they should look, instead of rising, from now on, so that ARRIVES of all PEOPLE together (61 for none) is least;");
    Edges.run("{plain 0 1;timid 0 1} order(-1)=4 order(0)=1 order(1)=0 order(2)=NONE");
    // The second timid one, too, has to look ahead of the plain one who is left.
    Edges.run("{plain 0 1;timid 0 1;plain 0 1;timid 0 1} order(-1)=10 order(0)=1 order(1)=0 order(2)=3 order(3)=2 order(4)=NONE order(5)=NONE");
    // Who goes far looks behind who goes near, whose cabin then has room for the one on floor 1.
    Edges.run("{room 1;plain 0 3;plain 0 1;plain 1 2;shut 0} order(-1)=10 order(0)=1 order(1)=0 order(2)=2");
    // The last of all lines but one is the best: 60 steps in rising order, 52 in this one.
    Edges.run("{hall 6;room 1;timid 3 1;plain 3 1;hasty 3 1;idler 3 2;idler 3 4;plain 3 4;shut 4;shut 7;shut 8;shut 10;shut 11} "
      + "order(-1)=52 order(0)=5 order(1)=4 order(2)=3 order(3)=2 order(4)=0 order(5)=1");
    // The only cabin has just gone, and comes a whole turn later; an idler rides for more than a turn.
    Edges.run(open("hall 2;plain 0 1", 0) + "order(-1)=5 order(0)=0");
    Edges.run(open("hall 2;room 1;plain 0 1;bearer 0 1;plain 0 1", 0) + "order(-1)=75 order(0)=0 order(1)=1 order(2)=2");
    Edges.run("{hall 2;idler 0 1} order(-1)=6 order(0)=0 step(1) order(-1)=5 order(0)=NONE");
    // Nobody, one, six, and not seven.
    Edges.run("order(-1)=0 order(0)=NONE order(5)=NONE");
    Edges.run("{plain 0 1} order(-1)=2 order(0)=0 order(1)=NONE");
    Edges.run("{" + EIGHT + "} stairs(0) order(-1)=NONE stairs(7)=6 order(-1)=14 order(0)=1 order(1)=2 order(2)=3 order(3)=4 order(4)=5 order(5)=6");
    // Those who ride count, those who are there count for nothing.
    Edges.run("{" + EIGHT + "} step(1) order(-1)=12 order(0)=4 order(3)=7 order(4)=NONE step(1) order(-1)=4 order(0)=NONE step(1) order(-1)=0");
    Edges.run("{hall 2;room 1;bearer 0 1} order(-1)=61 order(0)=0");
    Edges.run("{hall 2;room 1" + ";bearer 0 1".repeat(6) + "} order(-1)=366 " + "order(0)=0 order(1)=1 order(2)=2 order(3)=3 order(4)=4 order(5)=5");
    Edges.run(open(FOUR, 2) + "order(-1)=156 order(0)=0 order(3)=3");
    Edges.run(open(FOUR, 1) + "order(-1)=160 order(0)=0 order(3)=3 step(1) order(-1)=156");
    // By each change of the house it is found anew.
    Edges.run("{plain 0 1;timid 0 1} order(-1)=4 shut(7) order(-1)=6 keep(0) shut(6) order(-1)=8 undo() order(-1)=6 stairs(1) order(-1)=3 order(0)=0 back(0) order(0)=1 step(2) order(-1)=3 order(0)=1 {hall 2;plain 0 1} order(-1)=2 order(0)=0");
    Edges.says("of several the first (by numbers, place by place);");
    Edges.run("{plain 0 1;plain 0 1;plain 0 1} order(-1)=7 order(0)=0 order(1)=1 order(2)=2");
    Edges.run("{plain 0 1;plain 3 2;plain 0 1;hasty 1 2} order(-1)=8 order(0)=0 order(1)=1 order(2)=2 order(3)=3");
    Edges.run("{hall 5;room 3;plain 0 1;plain 0 4;timid 0 2} order(-1)=10 order(0)=2 order(1)=0 order(2)=1");
    Edges.says("none: more WAIT.");
    Edges.run("{" + EIGHT + "} order(-1)=NONE order(0)=NONE order(5)=NONE stairs(3)=7 order(-1)=NONE order(0)=NONE stairs(4)=6 order(-1)=14 order(5)=7");
    Edges.run("{hall 2;room 1" + ";plain 0 1".repeat(7) + "} order(-1)=NONE step(1) order(-1)=28 order(0)=1 order(5)=6");
  }

  private static void seenKinds() {
    Edges.says("SEEN, 6 at most: one of unknown KIND, alone, in a house of these FLOORS with nothing SHUT, ROOM 4, 0 STEPS done, was THERE behind n STEPS (1 .. 60), FROM a TO b.");
    Edges.run("count(8)=0 seen(0,1,1)=1 seen(0,1,60)=2 seen(0,1,2)=3 seen(3,0,2)=4 seen(0,3,2)=5 seen(1,0,2)=6 count(8)=6 seen(0,1,2)=FULL count(8)=6");
    Edges.run("seen(0,1,0)=OUTSIDE seen(0,1,61)=OUTSIDE count(8)=0");
    Edges.run(open("room 1;bearer 0 1;plain 0 3") + "step(3) seen(0,3,4)=1 kinds()=23 forget() seen(0,3,12)=1 kinds()=8");
    Edges.run("{hall 2} seen(0,1,2) kinds()=23 forget() seen(0,1,6) kinds()=8 forget() seen(1,0,7) kinds()=8 forget() seen(1,0,2) kinds()=23");
    Edges.run("{hall 7} seen(0,1,2) kinds()=23 forget() seen(0,1,16) kinds()=8 forget() seen(6,0,7) kinds()=23 forget() seen(6,0,22) kinds()=8");
    Edges.run("{hall 7} seen(1,0,27) kinds()=8 forget() seen(1,0,26) kinds()=0 forget() seen(1,0,28) kinds()=0 forget() seen(1,0,60) kinds()=0");
    Edges.says("KINDS (0 .. 4, by bits) by which all that is SEEN would be so.");
    Edges.run("kinds()=31 seen(0,3,4) kinds()=23 seen(0,1,2) seen(3,1,3) seen(3,0,4) seen(1,2,2) seen(2,1,2) kinds()=23 count(8)=6");
    Edges.run("seen(0,3,4) seen(0,3,4) seen(0,3,4) seen(0,3,4) seen(0,3,4) seen(0,3,12) kinds()=0 forget() kinds()=31");
    Edges.run("seen(0,3,12) kinds()=8 seen(3,0,13) kinds()=8 seen(2,1,13) kinds()=8 seen(1,0,15) kinds()=8 seen(0,1,2) kinds()=0");
    Edges.run("seen(0,1,1) kinds()=0 forget() seen(0,1,3) kinds()=0 forget() seen(0,1,9) kinds()=0 forget() seen(0,1,10) kinds()=8 forget() seen(0,1,11) kinds()=0");
  }

  private static void asked() {
    Edges.says("ASK: FROM and TO by which these are parted best (by when they would be THERE): the greatest part that is alike is least;");
    // All but the idler are always there at the same time, so 4 of 5 are alike at the best.
    Edges.run("ask()=1 seen(0,1,2) kinds()=23 ask()=NONE");
    Edges.says("of like ones the least of 10 times FROM, and TO: that number;");
    for (int f = 2; f <= 7; f++) { Edges.run("{hall " + f + "} ask()=1"); }
    Edges.run(open("room 1;bearer 0 1") + "step(5) ask()=1");
    Edges.says("none (none parts them).");
    Edges.run("seen(0,3,12) kinds()=8 ask()=NONE seen(0,3,4) kinds()=0 ask()=NONE forget() ask()=1");
    Edges.run("{hall 2} seen(1,0,2) kinds()=23 ask()=NONE {hall 7} ask()=1 seen(6,0,22) ask()=NONE");
  }

  /** Both parts of the odds of one. */
  private static void odds(String scene, int person, int q, int n, int above, int below) {
    String asked = "dares(" + person + "," + q + "," + n;
    Edges.run(scene + " " + asked + ",0)=" + above + " " + asked + ",1)=" + below);
  }

  private static void dared() {
    Edges.says("DARES: one alone, as if WAITING now, all CABINS as they are, empty, by q of ten (0 .. 10) dares not step in, by itself in each STEP in which one could:");
    odds("{plain 0 1}", 0, 0, 1, 1, 1);
    odds("{plain 0 1}", 0, 1, 1, 9, 10);
    odds("{plain 0 1}", 0, 9, 1, 1, 10);
    odds("{plain 0 1}", 0, 10, 1, 0, 1);
    odds("{plain 0 1}", 0, 10, 8, 0, 1);
    odds("{plain 0 1}", 0, 5, 2, 3, 4);
    Edges.run("{plain 0 1} dares(0,-1,1,0)=OUTSIDE dares(0,11,1,0)=OUTSIDE");
    // Shut ones stay shut; who could not has dared nothing.
    odds("{plain 0 1;shut 7}", 0, 0, 1, 0, 1);
    odds("{plain 0 1;shut 7}", 0, 5, 1, 0, 1);
    odds("{plain 0 1;shut 7}", 0, 5, 2, 1, 2);
    odds("{plain 0 1;shut 7;shut 5}", 0, 5, 4, 3, 4);
    odds(open("plain 0 1"), 0, 0, 8, 0, 1);
    odds("{room 1;bearer 0 1}", 0, 0, 8, 0, 1);
    // Alone, and all empty: who rides in a cabin, and who looks ahead of one, is not there.
    odds("{room 1;plain 0 3;plain 1 3;shut 0} step(1) person(0,4)=7 person(1,3)=0", 1, 5, 1, 1, 2);
    odds("{room 4;plain 0 3;timid 1 3;shut 0} step(1) person(0,4)=7 person(1,3)=0", 1, 5, 1, 1, 2);
    odds("{room 1;plain 0 1;plain 0 1}", 1, 5, 1, 1, 2);
    odds("{room 1;plain 0 3;bearer 0 3}", 1, 5, 1, 0, 1);
    // As if waiting, who rides and who is there too.
    odds("{plain 0 3} step(1) person(0,3)=1", 0, 5, 1, 1, 2);
    odds("{plain 0 1} step(12) person(0,3)=2", 0, 5, 2, 3, 4);
    odds("{plain 0 1} stairs(0)", 0, 5, 1, 1, 2);
    odds("{plain 0 1;shut 6} step(1)", 0, 5, 1, 0, 1);
    // One step is one dare, be it of two cabins.
    odds("{hall 3;hasty 1 2}", 0, 5, 1, 1, 2);
    odds("{hall 3;hasty 1 2;shut 0}", 0, 5, 1, 1, 2);
    odds("{hall 3;idler 1 2;shut 3}", 0, 5, 1, 1, 2);
    odds("{hall 3;idler 1 2;shut 0;shut 3}", 0, 5, 1, 0, 1);
    odds("{hall 3;plain 1 2;shut 0}", 0, 5, 1, 0, 1);
    Edges.says("the odds that one RIDES, or RODE, behind n STEPS (0 .. 8).");
    odds("{plain 0 1}", 0, 0, 0, 0, 1);
    odds("{plain 0 1} step(1)", 0, 0, 0, 0, 1);
    odds("{hall 2;plain 0 1}", 0, 0, 8, 1, 1);
    odds("{hall 2;plain 0 1}", 0, 1, 8, 99999999, 100000000);
    odds("{hall 2;plain 0 1}", 0, 3, 8, 99993439, 100000000);
    odds("{hall 2;plain 0 1}", 0, 9, 8, 56953279, 100000000);
    odds("{hall 7;timid 6 0}", 0, 9, 8, 56953279, 100000000);
    odds("{hall 2;hasty 0 1}", 0, 5, 7, 127, 128);
    Edges.run("{plain 0 1} dares(0,5,-1,0)=OUTSIDE dares(0,5,9,0)=OUTSIDE");
  }

  private static void behind() {
    Edges.promise(15);
    Edges.says("Of a PERSON behind n STEPS (0 .. 60): as of person(): what 3, 4, 5.");
    Edges.run("{plain 0 1} behind(0,0,3)=0 behind(0,0,4)=NONE behind(0,0,5)=0 behind(0,1,3)=1 behind(0,1,4)=7 behind(0,1,5)=0 behind(0,2,3)=2 behind(0,2,4)=NONE behind(0,2,5)=1 behind(0,60,5)=1");
    Edges.run("{plain 0 3} step(2) behind(0,0,3)=1 behind(0,0,4)=7 behind(0,0,5)=1 behind(0,1,5)=2 behind(0,2,3)=2 behind(0,2,5)=3");
    Edges.run(open(FOUR, 2) + "behind(3,53,3)=0 behind(3,54,3)=1 behind(3,54,4)=2 behind(3,54,5)=0 behind(3,59,3)=1 behind(3,59,5)=5 behind(3,60,3)=2 behind(3,60,4)=NONE behind(3,60,5)=6");
    Edges.run(open(FOUR, 1) + "behind(3,60,3)=1 behind(3,60,4)=1 behind(3,60,5)=5");
    Edges.says("UNKNOWN; OUTSIDE.");
    Edges.still("", "behind(0,0,3)=UNKNOWN", "behind(0,61,6)=UNKNOWN");
    Edges.still(SCENE, "behind(4,0,3)=UNKNOWN", "behind(-1,0,3)=UNKNOWN", "behind(8,0,3)=UNKNOWN", "behind(MIN,0,3)=UNKNOWN", "behind(MAX,0,3)=UNKNOWN");
    Edges.still(SCENE, "behind(4,61,3)=UNKNOWN", "behind(4,0,2)=UNKNOWN", "behind(-1,-1,6)=UNKNOWN");
    Edges.still(SCENE, "behind(0,61,3)=OUTSIDE", "behind(0,-1,3)=OUTSIDE", "behind(0,MIN,3)=OUTSIDE", "behind(0,MAX,3)=OUTSIDE");
    Edges.still(SCENE, "behind(0,0,2)=OUTSIDE", "behind(0,0,6)=OUTSIDE", "behind(0,60,0)=OUTSIDE", "behind(0,0,MIN)=OUTSIDE", "behind(0,0,MAX)=OUTSIDE", "behind(0,61,6)=OUTSIDE");
    Edges.run("{" + EIGHT + "} behind(7,1,3)=0 behind(7,2,3)=1 behind(7,3,3)=2 behind(8,0,3)=UNKNOWN");
  }

  private static void arrives() {
    Edges.promise(16);
    Edges.says("ARRIVES; NONE. UNKNOWN.");
    Edges.run("{" + EIGHT + "} arrives(0)=2 arrives(3)=2 arrives(4)=3 arrives(7)=3 arrives(8)=UNKNOWN arrives(-1)=UNKNOWN");
    Edges.run(open(FOUR, 1) + "arrives(3)=NONE arrives(4)=UNKNOWN");
    Edges.still("", "arrives(0)=UNKNOWN", "arrives(-1)=UNKNOWN");
    Edges.still(SCENE, "arrives(4)=UNKNOWN", "arrives(-1)=UNKNOWN", "arrives(MIN)=UNKNOWN", "arrives(MAX)=UNKNOWN", "arrives(2)=NONE", "arrives(0)=0");
  }

  private static void all17() {
    Edges.promise(17);
    Edges.says("ALL; NONE.");
    Edges.still("", "all()=0");
    Edges.still(SCENE, "all()=NONE");
    Edges.run("{" + EIGHT + "} all()=3 step(3) all()=0");
    Edges.run(open(FOUR, 2) + "all()=60");
    Edges.run(open(FOUR, 1) + "all()=NONE");
  }

  private static void meet() {
    Edges.promise(18);
    Edges.says("MEET; NONE. UNKNOWN.");
    Edges.run("{" + EIGHT + "} meet(0,3)=1 meet(3,4)=NONE meet(4,7)=2 meet(7,4)=2 meet(7,8)=UNKNOWN meet(7,7)=UNKNOWN");
    Edges.still("", "meet(0,1)=UNKNOWN", "meet(0,0)=UNKNOWN");
    Edges.still("{plain 0 1}", "meet(0,1)=UNKNOWN", "meet(1,0)=UNKNOWN", "meet(0,0)=UNKNOWN");
    Edges.still(SCENE, "meet(0,0)=UNKNOWN", "meet(3,3)=UNKNOWN", "meet(0,4)=UNKNOWN", "meet(4,0)=UNKNOWN", "meet(0,-1)=UNKNOWN", "meet(-1,0)=UNKNOWN");
    Edges.still(SCENE, "meet(4,4)=UNKNOWN", "meet(-1,-1)=UNKNOWN", "meet(MIN,0)=UNKNOWN", "meet(0,MAX)=UNKNOWN", "meet(0,2)=NONE");
  }

  private static void jam() {
    Edges.promise(19);
    Edges.says("JAM: the CABIN (what 0), ALL then (1; NONE); NONE.");
    Edges.run("{hall 2;plain 0 1} jam(0)=3 jam(1)=3");
    Edges.run(open("hall 2;plain 0 1", 0) + "jam(0)=0 jam(1)=NONE");
    Edges.run(open("hall 7;plain 0 1", 13) + "jam(0)=13 jam(1)=NONE");
    Edges.run(open("hall 2;plain 0 1") + "jam(0)=NONE jam(1)=NONE");
    Edges.says("OUTSIDE.");
    Edges.still("", "jam(2)=OUTSIDE", "jam(-1)=OUTSIDE");
    Edges.still(SCENE, "jam(2)=OUTSIDE", "jam(-1)=OUTSIDE", "jam(MIN)=OUTSIDE", "jam(MAX)=OUTSIDE", "jam(0)=0", "jam(1)=NONE");
    Edges.still(open("hall 2;plain 0 1"), "jam(2)=OUTSIDE", "jam(-1)=OUTSIDE");
  }

  private static void order() {
    Edges.promise(20);
    Edges.says("ORDER: ARRIVES of all together (k NONE), the k-th who should look (0 .. 5; NONE: there is none); NONE.");
    Edges.run("{plain 0 1;timid 0 1} order(NONE)=4 order(0)=1 order(1)=0 order(2)=NONE order(3)=NONE order(4)=NONE order(5)=NONE");
    Edges.run("{" + EIGHT + "} stairs(0) stairs(1) order(5)=7 order(0)=2 order(NONE)=14 undo() order(5)=NONE order(0)=NONE order(NONE)=NONE");
    Edges.says("OUTSIDE.");
    Edges.still("", "order(-2)=OUTSIDE", "order(6)=OUTSIDE");
    Edges.still(SCENE, "order(-2)=OUTSIDE", "order(6)=OUTSIDE", "order(MIN)=OUTSIDE", "order(MAX)=OUTSIDE", "order(0)=2", "order(1)=NONE");
    Edges.still("{" + EIGHT + "}", "order(-2)=OUTSIDE", "order(6)=OUTSIDE", "order(7)=OUTSIDE");
  }

  private static void dares() {
    Edges.section("Terms");
    Edges.says("Parts are told in lowest terms: above (part 0), below (1).");
    odds("{hall 2;plain 0 1}", 0, 5, 8, 255, 256);
    odds("{hall 2;plain 0 1}", 0, 2, 8, 390624, 390625);
    odds("{hall 2;plain 0 1}", 0, 8, 8, 325089, 390625);
    odds("{hall 2;plain 0 1}", 0, 4, 2, 21, 25);
    odds("{hall 2;plain 0 1}", 0, 0, 3, 1, 1);
    odds("{hall 2;plain 0 1}", 0, 10, 3, 0, 1);
    odds("{hall 2;plain 0 1}", 0, 7, 0, 0, 1);
    Edges.run("{plain 0 1} dares(0,5,1,-1)=OUTSIDE dares(0,5,1,2)=OUTSIDE");
    Edges.promise(21);
    Edges.says("DARES.");
    Edges.run("{" + EIGHT + "} dares(7,5,1,0)=1 dares(7,5,1,1)=2 dares(8,5,1,1)=UNKNOWN dares(-1,5,1,1)=UNKNOWN");
    Edges.says("UNKNOWN; OUTSIDE.");
    Edges.still("", "dares(0,0,0,0)=UNKNOWN", "dares(0,11,9,2)=UNKNOWN");
    Edges.still(SCENE, "dares(4,0,0,0)=UNKNOWN", "dares(-1,0,0,0)=UNKNOWN", "dares(MIN,0,0,0)=UNKNOWN", "dares(MAX,0,0,0)=UNKNOWN");
    Edges.still(SCENE, "dares(4,11,0,0)=UNKNOWN", "dares(4,0,9,0)=UNKNOWN", "dares(-1,0,0,2)=UNKNOWN");
    Edges.still(SCENE, "dares(0,11,0,0)=OUTSIDE", "dares(0,-1,0,0)=OUTSIDE", "dares(0,MIN,0,0)=OUTSIDE", "dares(0,MAX,0,0)=OUTSIDE");
    Edges.still(SCENE, "dares(0,0,9,0)=OUTSIDE", "dares(0,0,-1,0)=OUTSIDE", "dares(0,0,MIN,0)=OUTSIDE", "dares(0,0,MAX,0)=OUTSIDE");
    Edges.still(SCENE, "dares(0,0,0,2)=OUTSIDE", "dares(0,0,0,-1)=OUTSIDE", "dares(0,0,0,MIN)=OUTSIDE", "dares(0,0,0,MAX)=OUTSIDE");
    Edges.still(SCENE, "dares(0,10,8,1)=1", "dares(0,0,0,0)=0", "dares(2,0,8,0)=0");
  }

  private static void seen() {
    Edges.promise(22);
    Edges.says("SEEN: how many.");
    Edges.run("seen(0,3,1)=1 seen(3,0,60)=2 seen(0,3,1)=3 seen(2,3,5)=4 seen(1,0,7)=5 seen(1,0,7)=6 count(8)=6");
    Edges.says("OUTSIDE (a, b no FLOORS, or the same, too); FULL.");
    String[] outside = {"seen(5,0,1)=OUTSIDE", "seen(0,5,1)=OUTSIDE", "seen(-1,0,1)=OUTSIDE", "seen(0,-1,1)=OUTSIDE", "seen(0,0,1)=OUTSIDE", "seen(4,4,1)=OUTSIDE",
      "seen(0,1,0)=OUTSIDE", "seen(0,1,61)=OUTSIDE", "seen(0,1,-1)=OUTSIDE", "seen(MIN,0,1)=OUTSIDE", "seen(0,MAX,1)=OUTSIDE", "seen(0,1,MIN)=OUTSIDE", "seen(0,1,MAX)=OUTSIDE", "seen(-1,-1,1)=OUTSIDE"};
    Edges.still(SCENE, outside);
    String full = SCENE + "seen(0,4,1)=3 seen(4,0,60)=4 seen(0,1,2)=5 seen(0,1,2)=6 ";
    Edges.still(full, "seen(0,1,2)=FULL", "seen(4,0,60)=FULL", "seen(0,4,1)=FULL");
    Edges.still(full, outside);
    Edges.run(full + "seen(0,1,2)=FULL forget()=6 seen(0,1,2)=1");
  }

  private static void forget() {
    Edges.promise(23);
    Edges.says("SEEN is nothing: how many there were.");
    Edges.still("", "forget()=0");
    Edges.still(SCENE, "forget()=2 seen(0,1,2)=1 seen(1,0,2)=2");
    Edges.run("seen(0,1,9)*6 kinds()=0 forget()=6 count(8)=0 kinds()=31 forget()=0 seen(0,1,2)=1 kinds()=23");
  }

  private static void kinds() {
    Edges.promise(24);
    Edges.says("KINDS, by bits.");
    Edges.still("", "kinds()=31");
    Edges.still(SCENE, "kinds()=23");
    Edges.run("seen(0,3,12) kinds()=8 seen(0,3,11) kinds()=0 forget() seen(0,3,13) kinds()=0 forget() seen(0,3,5) kinds()=0 forget() seen(0,3,3) kinds()=0");
  }

  private static void ask() {
    Edges.promise(25);
    Edges.says("ASK; NONE.");
    Edges.still("", "ask()=1");
    Edges.still(SCENE, "ask()=NONE");
    Edges.still(SCENE + "forget()", "ask()=1");
    Edges.run("seen(0,3,12) ask()=NONE seen(0,3,11) ask()=NONE");
  }
}
