/** The sentences on THE TEXT, and promises 2 to 5. */
final class TextEdges {
  private static final String[] WORDS = {"plain", "timid", "bearer", "idler", "hasty"};
  private static final String EIGHT = "plain 0 1" + ";hasty 1 0".repeat(7);
  private static final String MOST = "room 1" + ";room 2".repeat(23);

  private TextEdges() { }

  static void all() {
    Edges.section("Terms");
    letters();
    clauses();
    halls();
    rooms();
    shutOnes();
    persons();
    signs();
    earlierTexts();
    faults();
    ends();
    order();
    behindThem();
    write();
    erase();
    fault();
    hall();
  }

  private static void letters() {
    Edges.says("THE TEXT is a row of letters, 200 at most:");
    Edges.run("write(32)*199 write(32)=200 write(32)=FULL count(11)=200");
    Edges.sound("hall 3" + " ".repeat(194), " ".repeat(194) + "hall 3", "hall" + " ".repeat(195) + "3");
    Edges.run("'hall 3" + " ".repeat(193) + "' write(32)=200 hall()=1 write(32)=1");
    Edges.run("'" + " ".repeat(194) + "hall 3' write(59)=FULL fault()=NONE hall()=1 count(0)=3");
  }

  private static void clauses() {
    Edges.says("CLAUSES with ; between, 24 at most;");
    Edges.fault("", 0);
    Edges.sound("room 1", "room 1;room 2", MOST);
    Edges.run("'" + MOST + "' hall()=24");
    Edges.run("'" + MOST.substring(7) + "' hall()=23");
    // No text can go on behind a ; that has 24 clauses ahead of it.
    Edges.fault(MOST + ";room 3", MOST.length());
    Edges.fault(MOST + ";", MOST.length());
    Edges.fault(MOST + " ;room 3", MOST.length() + 1);
    Edges.fault(MOST.substring(7) + ";", MOST.length() - 6);
    Edges.fault(";", 0);
    Edges.fault(";room 1", 0);
    Edges.fault("room 1;", 7);
    Edges.fault("room 1;;room 2", 7);
    Edges.fault("room 1; ;room 2", 8);
    Edges.fault("room 1 room 2", 7);
    Edges.fault("room 1,room 2", 6);
    Edges.fault("room 1:room 2", 6);
    Edges.says("each is one of: hall F. room R. shut C. plain A B. timid A B. bearer A B. idler A B. hasty A B.");
    Edges.sound("hall 4", "room 2", "shut 0", "plain 0 1", "timid 0 1", "bearer 0 1", "idler 0 1", "hasty 0 1");
    for (String word : new String[] {"hall", "room", "shut", "plain", "timid", "bearer", "idler", "hasty"}) {
      Edges.fault(word.substring(1) + " 2 3", 0);
      Edges.fault(word.substring(0, word.length() - 1) + " 2 3", 0);
      Edges.fault(word + "s 2 3", 0);
      Edges.fault(word.toUpperCase() + " 2 3", 0);
      Edges.fault(word.substring(0, 1).toUpperCase() + word.substring(1) + " 2 3", 0);
      Edges.fault(word.substring(0, 2) + " " + word.substring(2) + " 2 3", 0);
      Edges.fault(word, word.length());
      Edges.fault(word + ";", word.length());
      Edges.fault(word + word, 0);
      Edges.fault(word + " " + word, word.length() + 1);
    }
    for (String word : new String[] {"hall", "room", "shut"}) { Edges.fault(word + " 2 3", 7); }
    for (String word : WORDS) { Edges.fault(word + " 2 3 1", word.length() + 5); }
    Edges.fault("2", 0);
    Edges.fault("lift 3", 0);
    Edges.fault("a", 0);
    Edges.fault("z", 0);
  }

  private static void halls() {
    Edges.says("(As written here, without points; hall: F FLOORS, 2 to 7, all else as at first;");
    Edges.fault("hall 3.", 6);
    Edges.fault("hall 1", 5);
    Edges.sound("hall 2", "hall 3", "hall 4", "hall 5", "hall 6", "hall 7", "hall 02", "hall 07");
    Edges.fault("hall 8", 5);
    Edges.fault("hall 01", 5);
    Edges.fault("hall 08", 5);
    Edges.run("{room 3;shut 1;plain 0 1;hall 4} count(0)=4 count(1)=0 count(6)=0 count(7)=2");
    Edges.run("{room 3;shut 1;plain 0 1} {hall 4} count(0)=4 count(1)=0 count(6)=0 count(7)=2");
    Edges.run("{hall 7;shut 13} {hall 2} count(0)=2 count(6)=0 cabin(3,4)=2 cabin(4,4)=UNKNOWN");
    Edges.run("{hall 3;plain 0 1;hall 5;plain 4 0} count(1)=1 person(0,1)=4");
  }

  private static void rooms() {
    Edges.says("room: ROOM R, 1 to 4;");
    Edges.fault("room 0", 5);
    Edges.sound("room 1", "room 2", "room 3", "room 4", "room 01", "room 04");
    Edges.fault("room 5", 5);
    Edges.fault("room 00", 5);
    Edges.fault("room 05", 5);
    Edges.fault("room 14", 5);
    Edges.run("{room 1;room 4} count(7)=4 {room 1} count(7)=1");
    Edges.run("{hall 5;shut 9;plain 0 4;room 3} count(0)=5 count(1)=1 count(6)=512 count(7)=3");
  }

  private static void shutOnes() {
    Edges.says("shut: CABIN C, such as there is, is SHUT;");
    for (int f = 2; f <= 7; f++) {
      Edges.sound("hall " + f + ";shut 0", "hall " + f + ";shut " + (2 * f - 1));
      Edges.fault("hall " + f + ";shut " + 2 * f, 12);
      Edges.faultBehind("{hall " + f + "}", "shut " + (2 * f - 1), -1);
      Edges.faultBehind("{hall " + f + "}", "shut " + 2 * f, 5);
    }
    Edges.sound("shut 7", "shut 00", "shut 07", "hall 7;shut 13", "shut 7;hall 2");
    Edges.fault("shut 8", 5);
    Edges.fault("shut 08", 5);
    Edges.fault("shut 99", 5);
    Edges.fault("hall 7;hall 2;shut 4", 19);
    Edges.fault("shut 8;hall 7", 5);
    Edges.run("{shut 0;shut 7} count(6)=129");
    Edges.run("{shut 3;shut 3} count(6)=8 {shut 3} count(6)=8");
    Edges.run("{hall 7;shut 13} count(6)=8192 cabin(13,0)=1 cabin(12,0)=0");
  }

  private static void persons() {
    Edges.says("plain ..: a PERSON more, FROM FLOOR A TO FLOOR B, such as there are, unlike;");
    for (String word : WORDS) {
      int a = word.length() + 1, b = a + 2;
      Edges.sound(word + " 0 3", word + " 3 0", word + " 0 1", word + " 3 2", word + " 00 03");
      Edges.fault(word + " 4 0", a);
      Edges.fault(word + " 0 4", b);
      Edges.fault(word + " 4 4", a);
      Edges.fault(word + " 0 0", b);
      Edges.fault(word + " 3 3", b);
      Edges.fault(word + " 3 03", b);
      Edges.fault("hall 7;" + word + " 7 0", 7 + a);
      Edges.fault("hall 7;" + word + " 0 7", 7 + b);
      Edges.fault("hall 2;" + word + " 1 2", 7 + b);
      Edges.sound("hall 7;" + word + " 6 0", "hall 7;" + word + " 0 6", "hall 2;" + word + " 1 0", "hall 2;" + word + " 0 1");
    }
    Edges.run("{plain 0 1} count(1)=1 {timid 1 2} count(1)=2 person(0,0)=0 person(1,0)=1 person(1,1)=1 person(1,2)=2");
    Edges.says("a ninth cannot stand there (at its word);");
    for (String word : WORDS) {
      Edges.sound(EIGHT.replaceAll(";hasty 1 0$", ";" + word + " 1 0"));
      Edges.fault(EIGHT + ";" + word + " 0 1", EIGHT.length() + 1);
      Edges.fault(EIGHT + "; " + word, EIGHT.length() + 2);
      Edges.fault(EIGHT + ";" + word + " 9 9", EIGHT.length() + 1);
      Edges.faultBehind("{" + EIGHT + "}", "room 1;" + word + " 0 1", 7);
      Edges.faultBehind("{" + EIGHT + "}", "hall 2;" + word + " 0 1", -1);
    }
    Edges.sound(EIGHT + ";room 1;shut 0", EIGHT + ";hall 2;plain 0 1");
    Edges.faultBehind("{plain 0 1}", EIGHT, EIGHT.length() - 9);
    Edges.faultBehind("{" + EIGHT + "} stairs(0) step(9)", "plain 0 1", 0);
  }

  private static void signs() {
    Edges.says("small letters a .. z, numbers of 1 or 2 digits, blanks between;");
    // The signs next to a and z are letters by themselves, and so are those next to 0 and 9.
    Edges.fault("halla 3", 0);
    Edges.fault("hallz 3", 0);
    Edges.fault("hall`3", 4);
    Edges.run("'hall' write(123) write(51) fault()=4");
    Edges.fault("hallA 3", 4);
    Edges.fault("hallZ 3", 4);
    Edges.fault("hall 30", 5);
    Edges.fault("hall 39", 5);
    Edges.fault("hall 3/", 6);
    Edges.fault("hall 3:", 6);
    Edges.fault("hall /3", 5);
    Edges.fault("hall :3", 5);
    Edges.fault("hall -3", 5);
    Edges.fault("hall +3", 5);
    Edges.sound("hall 3", "hall 03", "shut 00", "hall 7;shut 10", "hall 7;shut 13");
    Edges.fault("hall 003", 5);
    Edges.fault("shut 000", 5);
    Edges.fault("room 001", 5);
    Edges.fault("plain 000 1", 6);
    Edges.fault("plain 0 001", 8);
    Edges.fault("hall " + "0".repeat(190) + "3", 5);
    Edges.fault("shut 4294967296", 5);
    Edges.fault("shut 256", 5);
    Edges.sound("hall    3", "  hall 3", "hall 3  ", "hall 3 ; room 1", "hall 3;  room 1", "plain   0   1", "hall3", "hall3;room1;plain0 1");
    Edges.fault("plain 01", 8);
    Edges.fault("hall\t3", 4);
    Edges.fault("hall\n3", 4);
    Edges.fault("hall\u00a03", 4);
    Edges.run("'hall' write(0) write(51) fault()=4");
    Edges.run("'hall' write(255) write(51) fault()=4");
    Edges.run("'hall' write(31) write(51) fault()=4");
    Edges.run("'hall' write(33) write(51) fault()=4");
    Edges.run("'hall' write(32) write(51) fault()=NONE");
    // Not by bits, and not by what is left over: 288 is no letter at all.
    Edges.run("'hall' write(160) write(51) fault()=4");
    Edges.run("'hall' write(288)=OUTSIDE write(51)=5 fault()=NONE");
  }

  private static void earlierTexts() {
    Edges.says("what earlier texts told stays as it was told.)");
    Edges.run("{hall 5;room 3;shut 9;plain 0 4} {timid 4 0} count(0)=5 count(1)=2 count(6)=512 count(7)=3 person(0,2)=4 person(1,1)=4");
    Edges.run("{hall 5;room 3;shut 9;plain 0 4} {room 1} count(0)=5 count(1)=1 count(6)=512 count(7)=1");
    Edges.run("{hall 5;room 3;shut 9;plain 0 4} {shut 0} count(0)=5 count(1)=1 count(6)=513 count(7)=3");
    // As it was told, not as it was made since.
    Edges.run("{shut 1;plain 0 3} shut(1)=0 shut(2)=1 {room 1} count(6)=2");
    Edges.run("{shut 1;plain 0 3} stairs(0)=0 {room 1} person(0,3)=0");
    Edges.run("{plain 0 3} 'hall 2;hall 9' hall()=NOT count(0)=4 count(1)=1 erase() {plain 3 0} count(1)=2");
  }

  private static void faults() {
    Edges.says("A FAULT is at the first TOKEN (a row of small letters, a row of digits, any other letter) that cannot stand there"
      + " (a number out of its bounds, of more digits, also),");
    Edges.fault("hall 3;lift 3;lift 3", 7);
    Edges.fault("hall 9;lift 3", 5);
    Edges.fault("hall 3 lift", 7);
    Edges.fault("hall 3lift", 6);
    Edges.fault("hall 3 99", 7);
    Edges.fault("hall 3..", 6);
    Edges.fault("..", 0);
    Edges.fault("hall x", 5);
    Edges.fault("hall xy3", 5);
    Edges.fault("hall ;", 5);
    Edges.fault("hall 123", 5);
    Edges.fault("hall 12", 5);
    Edges.fault("plain x 1", 6);
    Edges.fault("plain 0 x", 8);
    Edges.fault("plain 0;1", 7);
    Edges.fault("plain 0,1", 7);
    Edges.fault("plain 9 9 9", 6);
    Edges.fault("plain 0 9 9", 8);
    Edges.fault("room 2;3", 7);
    Edges.fault("room 2;room;", 11);
  }

  private static void ends() {
    Edges.says("or at the end, if it comes too soon.");
    Edges.fault("", 0);
    Edges.fault(" ", 1);
    Edges.fault("h", 0);
    Edges.fault("hall", 4);
    Edges.fault("hall ", 5);
    Edges.fault("plain 0", 7);
    Edges.fault("plain 0 ", 8);
    Edges.fault("plain", 5);
    Edges.fault("hall 3;", 7);
    Edges.fault("hall 3; ", 8);
    Edges.fault(" ".repeat(200), 200);
    Edges.fault("hall" + " ".repeat(196), 200);
    Edges.fault(" ".repeat(193) + "plain 0", 200);
    Edges.fault(" ".repeat(193) + "hall 3;", 200);
    // What stood there in an earlier text is no letter of this one.
    Edges.run("'hall 3' erase() 'hall ' fault()=5 erase() fault()=0");
    Edges.run("{hall 3;room 1} 'hall 3;' fault()=7");
  }

  private static void order() {
    Edges.says("CLAUSES are done in their order.");
    Edges.run("{room 1;room 4;room 3} count(7)=3");
    Edges.run("{hall 7;hall 2} count(0)=2 {hall 2;hall 7} count(0)=7");
    Edges.run("{room 4;hall 3} count(7)=2 {hall 3;room 4} count(7)=4");
    Edges.run("{plain 0 1;timid 1 0} person(0,0)=0 person(1,0)=1");
    Edges.fault("plain 4 0;hall 5", 6);
    Edges.sound("hall 5;plain 4 0");
  }

  private static void behindThem() {
    Edges.says("Behind them all is as told, all WAIT, there were 0 STEPS, nothing is SEEN, nothing is kept or can be undone; NOTES are all missing.");
    String used = "{hall 3;room 1;shut 1;plain 0 2;plain 1 0;bearer 2 0} step(1) shut(1)=0 shut(4)=1 stairs(2)=0 step(12) keep(0)=13 keep(1)=13 "
      + "seen(0,1,2)=1 seen(0,1,2)=2 notes(0) notes(1) notes(2) insert(0,0,0,1)=1 insert(2,0,1,2)=1 {room 2} ";
    Edges.run(used + "count(0)=3 count(1)=3 count(2)=0 count(3)=7 count(4)=0 count(5)=0 count(6)=2 count(7)=2 count(8)=0 count(9)=0 count(10)=0 count(11)=0");
    Edges.run(used + Edges.each("person(", 3, ",3)=0") + Edges.each("person(", 3, ",4)=NONE") + Edges.each("person(", 3, ",5)=0"));
    Edges.run(used + Edges.each("cabin(", 6, ",3)=0") + Edges.each("cabin(", 6, ",4)=2") + "cabin(0,1)=0 cabin(5,1)=5");
    Edges.run(used + "kinds()=31 forget()=0 undo()=NOT back(0)=NOT back(1)=NOT drop(0)=NULL drop(1)=NULL drop(2)=NULL");
    Edges.run(used + "notes(0)=0 look(0,0,0)=INDEX notes(2)=0 look(2,0,1)=INDEX count(9)=0");
    Edges.run(used + "step(1)=1 undo()=0 undo()=NOT keep(1)=0 back(1)=0 back(0)=NOT");
  }

  private static void write() {
    Edges.promise(2);
    Edges.says("A letter (its number, 0 .. 255) more of THE TEXT: how many it has.");
    Edges.run("write(0)=1 write(255)=2 write(104)=3 count(11)=3");
    Edges.run("write(0)*199 write(255)=200");
    Edges.run("write(104)=1 write(97)=2 write(108)=3 write(108)=4 write(55)=5 hall()=1 count(0)=7 write(104)=1");
    Edges.says("OUTSIDE; FULL.");
    String[] outside = {"write(-1)=OUTSIDE", "write(256)=OUTSIDE", "write(MIN)=OUTSIDE", "write(MAX)=OUTSIDE", "write(-256)=OUTSIDE"};
    Edges.still("", outside);
    Edges.still("'hall 5'", outside);
    Edges.still("write(97)*200", "write(97)=FULL", "write(0)=FULL", "write(255)=FULL");
    Edges.still("write(97)*200", outside);
    Edges.run("write(97)*200 write(97)=FULL erase()=200 write(97)=1");
  }

  private static void erase() {
    Edges.promise(3);
    Edges.says("THE TEXT is empty: how many letters it had.");
    Edges.still("", "erase()=0");
    Edges.still("'hall 5'", "erase()=6 'hall 5'");
    Edges.run("write(97) erase()=1 erase()=0 fault()=0 count(11)=0");
    Edges.run("write(97)*200 erase()=200 count(11)=0 erase()=0 {hall 5} count(0)=5 erase()=0");
  }

  private static void fault() {
    Edges.promise(4);
    Edges.says("The place of the FAULT (the letter with which the TOKEN begins, or the length); NONE.");
    Edges.fault("x", 0);
    Edges.fault("   lift", 3);
    Edges.fault("hall     12", 9);
    Edges.fault("hall 3" + " ".repeat(193) + "x", 199);
    Edges.fault("hall 3" + " ".repeat(191) + "xyz", 197);
    Edges.fault(" ".repeat(200), 200);
    Edges.fault("hall 3", -1);
    Edges.still("{plain 0 1} step(1) 'hall 5;room 3;plain 4 0'", "fault()=NONE");
    Edges.still("{plain 0 1} step(1) 'hall 5;room 3;plain 5 0'", "fault()=20");
  }

  private static void hall() {
    Edges.promise(5);
    Edges.says("THE TEXT's CLAUSES are done, and it is empty then: how many there were.");
    Edges.run("'room 1' hall()=1 count(11)=0 fault()=0 hall()=NOT");
    Edges.run("'" + MOST + "' hall()=24 count(11)=0 count(7)=2");
    Edges.run("'hall 7;room 4;shut 13;hasty 6 0' hall()=4 count(0)=7 count(7)=4 count(6)=8192 count(1)=1");
    Edges.says("NOT: it has a FAULT.");
    Edges.still("", "hall()=NOT");
    Edges.still("'hall 2;room 4;shut 3;plain 0 2'", "hall()=NOT");
    Edges.still("{hall 3;plain 0 2} step(2) keep(0) seen(0,1,2) notes(0) 'hall 2;'", "hall()=NOT");
    Edges.still("'" + MOST + ";room 3'", "hall()=NOT");
  }
}
