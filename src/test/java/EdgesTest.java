/**
 * Each sentence of the promises 1 to 33 that names an edge has a test of its own: the least and the greatest that
 * are taken, with one less and one more. That a refusal changes nothing is told by RefusalsTest.
 */
public final class EdgesTest {
    private static final int ALL_CELLS = (1 << 18) - 1;

    public static void main(String[] args) {
        newObject();
        text();
        play();
        playKeeps();
        about();
        things();
        parts();
        linesAndLoads();
        enter();
        walk();
        say();
        shift();
        undo();
        ways();
        comesAndOrder();
        barsAndLeftOut();
        judge();
        share();
        treadAndDoors();
        rests();
        gives();
        seedAndEvenings();
        slots();
        Hand.end("edges");
    }

    private static void newObject() {
        Hand.test("1 OnlyEntrances(): An empty stage", () -> {
            OnlyEntrances x = new OnlyEntrances();
            for (int what = 0; what <= 12; what++) {
                Hand.due("about(" + what + ")", x.about(what), what == 8 ? ALL_CELLS : 0);
            }
            for (int column = 0; column < 6; column++) {
                Hand.due("load(" + column + ")", x.load(column), 0);
            }
            Hand.due("fault", x.fault(), 0);
            Hand.due("door", x.door(0), Hand.UNKNOWN);
            Hand.due("stool", x.stool(0), Hand.UNKNOWN);
            Hand.due("part", x.part(0, 0), Hand.UNKNOWN);
            Hand.due("line", x.line(0, 0), Hand.UNKNOWN);
            Hand.due("undo", x.undo(), Hand.LATE);
            Hand.due("again(0)", x.again(0), Hand.LATE);
            Hand.due("again(1)", x.again(1), Hand.LATE);
            Hand.due("untread", x.untread(), 0);
            Hand.due("doors", x.doors(), 0);
            Hand.due("seed", x.seed(0), 0);
            Hand.due("wipe", x.wipe(), 0);
        });
        Hand.test("1 A new object: an empty stage is kept as any other", () -> {
            OnlyEntrances x = new OnlyEntrances();
            Hand.due("keep", x.keep(1), 0);
            Hand.due("again", x.again(1), 0);
            Hand.due("the other", x.again(0), Hand.LATE);
        });
        Hand.test("1 A new object: two of them are not one", () -> {
            OnlyEntrances x = Hand.played("EDmP10"), y = new OnlyEntrances();
            x.enter(0, 0);
            x.tread(0, 0);
            x.seed(9);
            Hand.same("the other one", Hand.wholePicture(y), Hand.wholePicture(new OnlyEntrances()));
        });
    }

    private static void text() {
        Hand.test("2 write: A byte (0 .. 255) comes behind THE TEXT: how long it is. BAD", () -> {
            OnlyEntrances x = new OnlyEntrances();
            Hand.due("write(-1)", x.write(-1), Hand.BAD);
            Hand.due("write(0)", x.write(0), 1);
            Hand.due("write(255)", x.write(255), 2);
            Hand.due("write(256)", x.write(256), Hand.BAD);
            Hand.due("write(least)", x.write(Hand.LEAST), Hand.BAD);
            Hand.due("write(greatest)", x.write(Hand.GREATEST), Hand.BAD);
            Hand.due("how long it is", x.about(12), 2);
        });
        Hand.test("2 write: 325 is no E, though its last eight bits are", () -> {
            OnlyEntrances x = new OnlyEntrances();
            Hand.due("write(325)", x.write(325), Hand.BAD);
            Hand.due("fault", x.fault(), 0);
            Hand.due("wipe", x.wipe(), 0);
        });
        Hand.test("2 write: FULL: there are 60", () -> {
            OnlyEntrances x = new OnlyEntrances();
            for (int many = 1; many <= 60; many++) {
                Hand.due("byte " + many, x.write(many), many);
            }
            Hand.due("one more", x.write(61), Hand.FULL);
            Hand.due("and once more", x.write(61), Hand.FULL);
            Hand.due("how long it is", x.wipe(), 60);
            Hand.due("there is room again", x.write(61), 1);
        });
        Hand.test("3 wipe: THE TEXT is empty: how long it was", () -> {
            OnlyEntrances x = new OnlyEntrances();
            Hand.due("of none", x.wipe(), 0);
            x.write('E');
            Hand.due("of one", x.wipe(), 1);
            Hand.due("of none again", x.wipe(), 0);
            Hand.due("bytes", x.about(12), 0);
            Hand.due("fault", x.fault(), 0);
            Hand.due("play", x.play(), Hand.LATE);
        });
        Hand.test("3 wipe: what was told before is not told again", () -> {
            OnlyEntrances x = Hand.told("EDmP10");
            x.wipe();
            x.write('E');
            Hand.due("play", x.play(), 0);
        });
        Hand.test("3 wipe: THE PLAY stays", () -> {
            OnlyEntrances x = Hand.played("EDmP10");
            x.enter(0, 0);
            Hand.due("wipe", x.wipe(), 6);
            Hand.due("who is on", x.about(4), 1);
            Hand.due("acts", x.about(10), 1);
        });
        Hand.test("4 fault: FAULT; NONE", () -> {
            OnlyEntrances x = new OnlyEntrances();
            Hand.due("of no byte", x.fault(), 0);
            x.write('E');
            Hand.due("of E", x.fault(), Hand.NONE);
            x.write('P');
            Hand.due("of EP", x.fault(), 2);
            x.write('0');
            Hand.due("of EP0", x.fault(), 2);
        });
        Hand.test("4 fault: it changes nothing", () -> {
            OnlyEntrances x = Hand.played("EDmP10P10L01"), y = Hand.played("EDmP10P10L01");
            x.write('D');
            y.write('D');
            x.fault();
            Hand.same("the object", Hand.wholePicture(x), Hand.wholePicture(y));
        });
    }

    private static void play() {
        Hand.test("5 play: 1000 times DOORS, 100 times STOOLS, 10 times PARTS, and LINES", () -> {
            Hand.due("none of all", Hand.told("E").play(), 0);
            Hand.due("a door", Hand.told("EDm").play(), 1000);
            Hand.due("a stool", Hand.told("EFa").play(), 100);
            Hand.due("a part", Hand.told("EP10").play(), 10);
            Hand.due("two parts and a line", Hand.told("EP10P10L01").play(), 21);
            Hand.due("as many as can be", Hand.told(Hand.FULL_PLAY).play(), 3466);
        });
        Hand.test("5 play: LATE: a FAULT", () -> {
            Hand.due("no text", new OnlyEntrances().play(), Hand.LATE);
            Hand.due("at its end", Hand.told("EDmP1").play(), Hand.LATE);
            Hand.due("at its first byte", Hand.told("DmP10").play(), Hand.LATE);
            Hand.due("behind all", Hand.told(Hand.FULL_PLAY + "E").play(), Hand.LATE);
        });
        Hand.test("5 play: LATE: THE PLAY is what it was", () -> {
            OnlyEntrances x = Hand.played("EDmP91");
            x.enter(0, 0);
            x.wipe();
            Hand.write(x, "EDnP20P3");
            Hand.due("play", x.play(), Hand.LATE);
            Hand.due("door", x.door(0), 12);
            Hand.due("weight", x.part(0, 0), 9);
            Hand.due("kind", x.part(0, 1), 1);
            Hand.due("parts", x.about(2), 1);
            Hand.due("who is on", x.about(4), 1);
        });
        Hand.test("5 play: THE TEXT is THE PLAY", () -> {
            OnlyEntrances x = Hand.told("EDmP10");
            Hand.due("before it is", x.about(2), 0);
            x.play();
            Hand.due("when it is", x.about(2), 1);
            Hand.write(x, "P20");
            Hand.due("longer, but not yet it", x.about(2), 1);
            Hand.due("play", x.play(), 1020);
            Hand.due("now it is", x.about(2), 2);
            Hand.due("the text is as it was", x.about(12), 9);
        });
        Hand.test("5 play: made anew by the same TEXT", () -> {
            OnlyEntrances x = Hand.played("EDmP10");
            x.enter(0, 0);
            Hand.due("play", x.play(), 1010);
            Hand.due("who is on", x.about(4), 0);
            Hand.due("the minute", x.about(9), 0);
            Hand.due("one may enter", x.enter(0, 0), 12);
        });
    }

    private static void playKeeps() {
        Hand.test("5 play: (no ACTS", () -> {
            OnlyEntrances x = Hand.played("EDmP10");
            x.enter(0, 0);
            x.play();
            Hand.due("acts", x.about(10), 0);
            Hand.due("undo", x.undo(), Hand.LATE);
        });
        Hand.test("5 play: what was kept is gone", () -> {
            OnlyEntrances x = Hand.played("EDmP10");
            x.keep(0);
            x.keep(1);
            x.play();
            Hand.due("again(0)", x.again(0), Hand.LATE);
            Hand.due("again(1)", x.again(1), Hand.LATE);
            x.keep(1);
            Hand.due("again(0)", x.again(0), Hand.LATE);
            Hand.due("again(1)", x.again(1), 0);
        });
        Hand.test("5 play: TROD stays", () -> {
            OnlyEntrances x = Hand.played("EDmDr");
            x.tread(11, 1);
            x.play();
            Hand.due("how many", x.about(11), 1);
            Hand.due("doors", x.doors(), 0b10);
            x.wipe();
            Hand.write(x, "EDrDm");
            x.play();
            Hand.due("doors of another play", x.doors(), 0b01);
            Hand.due("untread", x.untread(), 1);
        });
        Hand.test("5 play: THE SEED stays", () -> {
            OnlyEntrances x = Hand.told("E");
            x.seed(-5);
            x.play();
            Hand.due("seed", x.seed(0), -5);
        });
    }

    private static void about() {
        Hand.test("6 about: BAD", () -> {
            OnlyEntrances x = Hand.played("EDmP10");
            Hand.due("about(-1)", x.about(-1), Hand.BAD);
            Hand.due("about(13)", x.about(13), Hand.BAD);
            Hand.due("about(least)", x.about(Hand.LEAST), Hand.BAD);
            Hand.due("about(greatest)", x.about(Hand.GREATEST), Hand.BAD);
            Hand.due("about(0)", x.about(0), 1);
            Hand.due("about(12)", x.about(12), 6);
        });
        Hand.test("6 about: DOORS, STOOLS, PARTS, LINES: none, and as many as can be", () -> {
            OnlyEntrances x = Hand.played("E");
            OnlyEntrances y = Hand.played(Hand.FULL_PLAY);
            int[] most = {3, 4, 6, 6};
            for (int what = 0; what < 4; what++) {
                Hand.due("none of " + what, x.about(what), 0);
                Hand.due("most of " + what, y.about(what), most[what]);
            }
        });
        Hand.test("6 about: who is ON, who is SEEN (bits): none, and all", () -> {
            OnlyEntrances x = Hand.played("EDmDoDqP10P10P10P10P10P10");
            Hand.due("nobody is on", x.about(4), 0);
            Hand.due("nobody is seen", x.about(5), 0);
            for (int part = 0; part < 6; part++) {
                Hand.stand(x, part, part / 2, part);
                Hand.due("on after " + part, x.about(4), (1 << part + 1) - 1);
                Hand.due("seen after " + part, x.about(5), (1 << part + 1) - 1);
            }
        });
        Hand.test("6 about: what was SAID, what is HEARD (bits): none, and all", () -> {
            OnlyEntrances x = Hand.played("EDmDnP10P10L01L10L01L10L01L10");
            Hand.due("nothing is heard", x.about(7), 0);
            x.enter(0, 0);
            x.enter(1, 1);
            for (int line = 0; line < 6; line++) {
                Hand.due("said ahead of " + line, x.about(6), (1 << line) - 1);
                Hand.due("heard ahead of " + line, x.about(7), 63 & ~((1 << line) - 1));
                x.say(line);
            }
            Hand.due("all are said", x.about(6), 63);
            Hand.due("none is heard", x.about(7), 0);
        });
        Hand.test("6 about: CELLS that are FREE (bits): all, and as few as can be", () -> {
            OnlyEntrances x = Hand.played("EDmDnDoFaFbFcFdP10P10P10P10P10P10");
            Hand.due("but stools", x.about(8), ALL_CELLS & ~15);
            for (int part = 0; part < 3; part++) {
                Hand.stand(x, part, 2, 17 - part);
            }
            for (int part = 3; part < 6; part++) {
                x.enter(part, part - 3);
            }
            Hand.due("but stools and parts", x.about(8), ALL_CELLS & ~(15 | 63 << 12));
        });
        Hand.test("6 about: THE MINUTE, ACTS, TROD, bytes of THE TEXT: each its own", () -> {
            OnlyEntrances x = Hand.played("EDmP10");
            x.enter(0, 0);
            x.walk(0, Hand.FRONT);
            x.keep(0);
            x.again(0);
            x.walk(0, Hand.FRONT);
            x.tread(0, 0);
            x.tread(0, 0);
            Hand.due("the minute", x.about(9), 3);
            Hand.due("acts", x.about(10), 1);
            Hand.due("trod", x.about(11), 2);
            Hand.due("bytes", x.about(12), 6);
        });
    }

    private static void things() {
        Hand.test("7 door: CELL of a DOOR. UNKNOWN", () -> {
            OnlyEntrances x = Hand.played("EDrDmDo");
            Hand.due("door(-1)", x.door(-1), Hand.UNKNOWN);
            Hand.due("door(0)", x.door(0), 17);
            Hand.due("door(1)", x.door(1), 12);
            Hand.due("door(2)", x.door(2), 14);
            Hand.due("door(3)", x.door(3), Hand.UNKNOWN);
            Hand.due("of one, the second", Hand.played("EDm").door(1), Hand.UNKNOWN);
            Hand.due("of none", Hand.played("E").door(0), Hand.UNKNOWN);
        });
        Hand.test("8 stool: CELL of a STOOL. UNKNOWN", () -> {
            OnlyEntrances x = Hand.played("EFaFrFlFm");
            Hand.due("stool(-1)", x.stool(-1), Hand.UNKNOWN);
            Hand.due("stool(0)", x.stool(0), 0);
            Hand.due("stool(1)", x.stool(1), 17);
            Hand.due("stool(2)", x.stool(2), 11);
            Hand.due("stool(3)", x.stool(3), 12);
            Hand.due("stool(4)", x.stool(4), Hand.UNKNOWN);
            Hand.due("of one, the second", Hand.played("EFa").stool(1), Hand.UNKNOWN);
            Hand.due("of none", Hand.played("E").stool(0), Hand.UNKNOWN);
        });
        Hand.test("8 stool: where it is now", () -> {
            OnlyEntrances x = Hand.played("EFaFr");
            x.shift(1, 1);
            Hand.due("shifted", x.stool(1), 1);
            Hand.due("the other", x.stool(0), 0);
            x.undo();
            Hand.due("undone", x.stool(1), 17);
        });
    }

    private static void parts() {
        Hand.test("9 part: UNKNOWN; BAD", () -> {
            OnlyEntrances x = Hand.played("EP10P20");
            Hand.due("part(-1, 0)", x.part(-1, 0), Hand.UNKNOWN);
            Hand.due("part(2, 0)", x.part(2, 0), Hand.UNKNOWN);
            Hand.due("part(1, -1)", x.part(1, -1), Hand.BAD);
            Hand.due("part(1, 5)", x.part(1, 5), Hand.BAD);
            Hand.due("part(1, 0)", x.part(1, 0), 2);
            Hand.due("part(1, 4)", x.part(1, 4), 0);
        });
        Hand.test("9 part: its WEIGHT (what = 0), KIND (1)", () -> {
            for (int weight = 1; weight <= 9; weight++) {
                for (int kind = 0; kind <= 3; kind++) {
                    OnlyEntrances x = Hand.played("EP" + weight + kind);
                    Hand.due("weight", x.part(0, 0), weight);
                    Hand.due("kind", x.part(0, 1), kind);
                }
            }
        });
        Hand.test("9 part: CELL (2; NONE: it is not ON)", () -> {
            OnlyEntrances x = Hand.played("EDmP10");
            Hand.due("not on", x.part(0, 2), Hand.NONE);
            x.enter(0, 0);
            Hand.due("at the door", x.part(0, 2), 12);
            Hand.lead(x, 0, 0);
            Hand.due("at cell 0", x.part(0, 2), 0);
            x.undo();
            x.undo();
            x.undo();
            Hand.due("undone", x.part(0, 2), Hand.NONE);
        });
        Hand.test("9 part: with whom it has SIGHT (3: bits): none, and all", () -> {
            OnlyEntrances x = Hand.played("EDmDoDqP10P10P10P10P10P10");
            int[] cells = {6, 0, 1, 7, 13, 12};
            for (int part = 0; part < 5; part++) {
                Hand.stand(x, part, part == 0 || part > 3 ? 1 : 2, cells[part]);
            }
            x.enter(5, 0);
            Hand.due("not with itself", x.part(0, 3), 0b111110);
            Hand.due("nobody is on", Hand.played("EDmP10P10").part(0, 3), 0);
        });
        Hand.test("9 part: how many CELLS it has a WAY to (4; 0: it is not ON)", () -> {
            OnlyEntrances x = Hand.played("EDmDrFgFnP10P11");
            Hand.due("not on", x.part(0, 4), 0);
            x.enter(0, 0);
            Hand.due("shut in: its own", x.part(0, 4), 1);
            x.shift(0, 0);
            Hand.due("let out: all but stools", x.part(0, 4), 16);
            x.enter(1, 1);
            Hand.due("a part less", x.part(0, 4), 15);
            Hand.due("a butler: its own", x.part(1, 4), 1);
            x = Hand.played("EDmP10");
            x.enter(0, 0);
            Hand.due("all alone", x.part(0, 4), 18);
        });
    }

    private static void linesAndLoads() {
        Hand.test("10 line: UNKNOWN; BAD", () -> {
            OnlyEntrances x = Hand.played("EP10P10L01L10");
            Hand.due("line(-1, 0)", x.line(-1, 0), Hand.UNKNOWN);
            Hand.due("line(2, 0)", x.line(2, 0), Hand.UNKNOWN);
            Hand.due("line(1, -1)", x.line(1, -1), Hand.BAD);
            Hand.due("line(1, 4)", x.line(1, 4), Hand.BAD);
            Hand.due("line(1, 0)", x.line(1, 0), 1);
            Hand.due("line(1, 3)", x.line(1, 3), 0);
        });
        Hand.test("10 line: who says it (what = 0), to whom (1)", () -> {
            OnlyEntrances x = Hand.played("EP10P10P10P10P10P10L05L50L32");
            int[][] due = {{0, 5}, {5, 0}, {3, 2}};
            for (int line = 0; line < 3; line++) {
                Hand.due("who says " + line, x.line(line, 0), due[line][0]);
                Hand.due("to whom " + line, x.line(line, 1), due[line][1]);
            }
        });
        Hand.test("10 line: 1 if it was SAID (2), 1 if it is HEARD (3)", () -> {
            OnlyEntrances x = Hand.played("EDmDnP10P10L01L01");
            Hand.due("not said", x.line(0, 2), 0);
            Hand.due("not heard", x.line(0, 3), 0);
            x.enter(0, 0);
            x.enter(1, 1);
            Hand.due("heard", x.line(0, 3), 1);
            x.say(0);
            Hand.due("said", x.line(0, 2), 1);
            Hand.due("said and so not heard", x.line(0, 3), 0);
            Hand.due("the other one is not said", x.line(1, 2), 0);
            Hand.due("the other one is heard", x.line(1, 3), 1);
            x.undo();
            Hand.due("undone, not said", x.line(0, 2), 0);
            Hand.due("undone, heard", x.line(0, 3), 1);
        });
        Hand.test("11 load: BAD: column (0 .. 5)", () -> {
            OnlyEntrances x = Hand.played("EDmDrP30P40");
            x.enter(0, 0);
            x.enter(1, 1);
            Hand.due("load(-1)", x.load(-1), Hand.BAD);
            Hand.due("load(0)", x.load(0), 3);
            Hand.due("load(5)", x.load(5), 4);
            Hand.due("load(6)", x.load(6), Hand.BAD);
            Hand.due("load(least)", x.load(Hand.LEAST), Hand.BAD);
            Hand.due("load(greatest)", x.load(Hand.GREATEST), Hand.BAD);
        });
        Hand.test("11 load: who is not ON is no load", () -> {
            OnlyEntrances x = Hand.played("EDmP93");
            for (int column = 0; column < 6; column++) {
                Hand.due("load of " + column, x.load(column), 0);
            }
        });
    }

    private static void enter() {
        Hand.test("12 enter: ENTERED: its CELL. UNKNOWN: part, door", () -> {
            OnlyEntrances x = Hand.played("EDmDrP10P10");
            Hand.due("part -1", x.enter(-1, 0), Hand.UNKNOWN);
            Hand.due("part 2", x.enter(2, 0), Hand.UNKNOWN);
            Hand.due("door -1", x.enter(0, -1), Hand.UNKNOWN);
            Hand.due("door 2", x.enter(0, 2), Hand.UNKNOWN);
            Hand.due("part 0, door 1", x.enter(0, 1), 17);
            Hand.due("part 1, door 0", x.enter(1, 0), 12);
        });
        Hand.test("12 enter: LATE: it is ON", () -> {
            OnlyEntrances x = Hand.played("EDmDrP10");
            x.enter(0, 0);
            Hand.due("by the same door", x.enter(0, 0), Hand.LATE);
            Hand.due("by another one", x.enter(0, 1), Hand.LATE);
            Hand.due("where it is", x.part(0, 2), 12);
            x.undo();
            Hand.due("when that is undone", x.enter(0, 1), 17);
        });
        Hand.test("12 enter: LATE: the DOOR's CELL is not FREE", () -> {
            OnlyEntrances x = Hand.played("EDmDnP10P10");
            x.enter(0, 0);
            Hand.due("where one is", x.enter(1, 0), Hand.LATE);
            x.walk(0, Hand.RIGHT);
            Hand.due("where one has walked to", x.enter(1, 1), Hand.LATE);
            Hand.due("where one has been", x.enter(1, 0), 12);
        });
    }

    private static void walk() {
        Hand.test("13 walk: UNKNOWN; BAD: way (0 .. 3)", () -> {
            OnlyEntrances x = Hand.played("EDnP10");
            x.enter(0, 0);
            x.walk(0, Hand.FRONT);
            Hand.due("part -1", x.walk(-1, 0), Hand.UNKNOWN);
            Hand.due("part 1", x.walk(1, 0), Hand.UNKNOWN);
            Hand.due("way -1", x.walk(0, -1), Hand.BAD);
            Hand.due("way 4", x.walk(0, 4), Hand.BAD);
            Hand.due("way 0", x.walk(0, 0), 6);
            Hand.due("way 1", x.walk(0, 1), 7);
            Hand.due("way 2", x.walk(0, 2), 1);
            Hand.due("way 3", x.walk(0, 3), 7);
        });
        Hand.test("13 walk: LATE: it can not: not ON, a BUTLER", () -> {
            OnlyEntrances x = Hand.played("EDnP10P11");
            Hand.due("not on", x.walk(0, 2), Hand.LATE);
            x.enter(1, 0);
            for (int way = 0; way < 4; way++) {
                Hand.due("a butler", x.walk(1, way), Hand.LATE);
            }
        });
        Hand.test("13 walk: LATE: it can not: beyond the ROW, beyond the STAGE", () -> {
            OnlyEntrances x = Hand.played("EDmDrP10P10");
            x.enter(0, 0);
            x.enter(1, 1);
            Hand.due("back of m", x.walk(0, Hand.BACK), Hand.LATE);
            Hand.due("left of m", x.walk(0, Hand.LEFT), Hand.LATE);
            Hand.due("back of r", x.walk(1, Hand.BACK), Hand.LATE);
            Hand.due("right of r", x.walk(1, Hand.RIGHT), Hand.LATE);
            Hand.lead(x, 0, 0);
            Hand.lead(x, 1, 5);
            Hand.due("front of a", x.walk(0, Hand.FRONT), Hand.LATE);
            Hand.due("left of a", x.walk(0, Hand.LEFT), Hand.LATE);
            Hand.due("front of f", x.walk(1, Hand.FRONT), Hand.LATE);
            Hand.due("right of f", x.walk(1, Hand.RIGHT), Hand.LATE);
        });
        Hand.test("13 walk: LATE: it can not: the CELL is not FREE", () -> {
            OnlyEntrances x = Hand.played("EDmDnFgP10P12");
            x.enter(0, 0);
            x.enter(1, 1);
            Hand.due("a stool", x.walk(0, Hand.FRONT), Hand.LATE);
            Hand.due("a ghost", x.walk(0, Hand.RIGHT), Hand.LATE);
            Hand.due("a plain one, by a ghost", x.walk(1, Hand.LEFT), Hand.LATE);
        });
    }

    private static void say() {
        Hand.test("14 say: SAID: how many LINES were. UNKNOWN; LATE: it is not HEARD", () -> {
            OnlyEntrances x = Hand.played("EDmDnP10P10L01L10L01L10L01L10");
            Hand.due("not heard", x.say(0), Hand.LATE);
            x.enter(0, 0);
            x.enter(1, 1);
            Hand.due("line -1", x.say(-1), Hand.UNKNOWN);
            Hand.due("line 6", x.say(6), Hand.UNKNOWN);
            for (int many = 1; many <= 6; many++) {
                Hand.due("line " + (6 - many), x.say(6 - many), many);
                Hand.due("twice", x.say(6 - many), Hand.LATE);
            }
        });
        Hand.test("14 say: LATE: who stands between", () -> {
            OnlyEntrances x = Hand.played("EDmDoP10P10P10L01");
            Hand.stand(x, 2, 0, 13);
            x.enter(0, 0);
            x.enter(1, 1);
            Hand.due("barred", x.say(0), Hand.LATE);
            x.walk(2, Hand.FRONT);
            Hand.due("not barred", x.say(0), 1);
        });
    }

    private static void shift() {
        Hand.test("15 shift: SHIFTED: where it was. UNKNOWN: stool, cell", () -> {
            OnlyEntrances x = Hand.played("EDmFbFc");
            Hand.due("stool -1", x.shift(-1, 0), Hand.UNKNOWN);
            Hand.due("stool 2", x.shift(2, 0), Hand.UNKNOWN);
            Hand.due("cell -1", x.shift(0, -1), Hand.UNKNOWN);
            Hand.due("cell 18", x.shift(0, 18), Hand.UNKNOWN);
            Hand.due("to 0", x.shift(0, 0), 1);
            Hand.due("to 17", x.shift(0, 17), 0);
            Hand.due("the other", x.shift(1, 0), 2);
        });
        Hand.test("15 shift: LATE: that is not FREE, or a DOOR's", () -> {
            OnlyEntrances x = Hand.played("EDmDnDrFbFcP10");
            Hand.stand(x, 0, 0, 6);
            Hand.due("its own", x.shift(0, 1), Hand.LATE);
            Hand.due("a stool's", x.shift(0, 2), Hand.LATE);
            Hand.due("a part's", x.shift(0, 6), Hand.LATE);
            Hand.due("the first door's", x.shift(0, 12), Hand.LATE);
            Hand.due("the last door's", x.shift(0, 17), Hand.LATE);
            Hand.due("where there is no door", x.shift(0, 14), 1);
            Hand.due("where it was", x.shift(1, 1), 2);
        });
    }

    private static void undo() {
        Hand.test("16 undo: The last ACT is undone: how many are left. LATE: there is none", () -> {
            OnlyEntrances x = Hand.played("EDmP10");
            Hand.due("none", x.undo(), Hand.LATE);
            x.enter(0, 0);
            x.walk(0, Hand.FRONT);
            Hand.due("of two", x.undo(), 1);
            Hand.due("where it is", x.part(0, 2), 12);
            Hand.due("the minute", x.about(9), 1);
            Hand.due("of one", x.undo(), 0);
            Hand.due("where it is", x.part(0, 2), Hand.NONE);
            Hand.due("the minute", x.about(9), 0);
            Hand.due("none again", x.undo(), Hand.LATE);
        });
        Hand.test("16 undo: of 14; the ACT that was forgotten stays", () -> {
            OnlyEntrances x = Hand.played("EDmP10");
            x.enter(0, 0);
            for (int act = 0; act < 14; act++) {
                x.walk(0, act % 2 == 0 ? Hand.FRONT : Hand.BACK);
            }
            for (int left = 13; left >= 0; left--) {
                Hand.due("undo", x.undo(), left);
            }
            Hand.due("no more", x.undo(), Hand.LATE);
            Hand.due("it is on", x.part(0, 2), 12);
            Hand.due("the minute", x.about(9), 1);
        });
        Hand.test("16 undo: a stool back to where it was, a line not said", () -> {
            OnlyEntrances x = Hand.played("EDmDnFaP10P10L01");
            x.enter(0, 0);
            x.enter(1, 1);
            x.shift(0, 3);
            x.shift(0, 5);
            x.say(0);
            Hand.due("the line", x.undo(), 4);
            Hand.due("it is heard", x.about(7), 1);
            Hand.due("the stool", x.undo(), 3);
            Hand.due("where it is", x.stool(0), 3);
            Hand.due("the stool", x.undo(), 2);
            Hand.due("where it is", x.stool(0), 0);
        });
        Hand.test("16 undo: all of a long evening", () -> {
            OnlyEntrances x = Hand.played("EDmDnFaP10P10L01");
            x.enter(0, 0);
            String was = Hand.small(x);
            x.enter(1, 1);
            x.say(0);
            x.shift(0, 17);
            x.walk(1, Hand.FRONT);
            for (int act = 0; act < 4; act++) {
                x.undo();
            }
            Hand.same("where all are", Hand.small(x), was);
        });
    }

    private static void ways() {
        Hand.test("17 way: WAY; NONE. UNKNOWN: part, cell; LATE: it is not ON", () -> {
            OnlyEntrances x = Hand.played("EDmFgP10");
            Hand.due("not on", x.way(0, 12), Hand.LATE);
            x.enter(0, 0);
            Hand.due("part -1", x.way(-1, 0), Hand.UNKNOWN);
            Hand.due("part 1", x.way(1, 0), Hand.UNKNOWN);
            Hand.due("cell -1", x.way(0, -1), Hand.UNKNOWN);
            Hand.due("cell 18", x.way(0, 18), Hand.UNKNOWN);
            Hand.due("cell 0", x.way(0, 0), 4);
            Hand.due("cell 17", x.way(0, 17), 5);
            Hand.due("cell 12", x.way(0, 12), 0);
            Hand.due("a stool's", x.way(0, 6), Hand.NONE);
        });
        Hand.test("18 place: which (what = 0), how many (1). UNKNOWN; BAD; LATE: it is not ON", () -> {
            OnlyEntrances x = Hand.played("EDmDnP10P10L01");
            Hand.due("not on", x.place(0, 0), Hand.LATE);
            x.enter(0, 0);
            Hand.due("part -1", x.place(-1, 0), Hand.UNKNOWN);
            Hand.due("part 2", x.place(2, 0), Hand.UNKNOWN);
            Hand.due("what -1", x.place(0, -1), Hand.BAD);
            Hand.due("what 2", x.place(0, 2), Hand.BAD);
            Hand.due("which", x.place(0, 0), 12);
            Hand.due("how many", x.place(0, 1), 0);
            x.enter(1, 1);
            Hand.due("how many now", x.place(0, 1), 1);
        });
        Hand.test("18 place: how many: all six lines", () -> {
            OnlyEntrances x = Hand.played("EDmDrP10P10L01L10L01L10L01L10");
            x.enter(1, 1);
            Hand.stand(x, 0, 0, 6);
            Hand.due("how many", x.place(0, 1), 6);
            Hand.due("which", x.place(0, 0), 12);
        });
    }

    private static void comesAndOrder() {
        Hand.test("19 comes: its CELL at last; NONE: it does not come. UNKNOWN: part, door; LATE: it is ON", () -> {
            OnlyEntrances x = Hand.played("EDmDrP10P10");
            Hand.due("part -1", x.comes(-1, 0), Hand.UNKNOWN);
            Hand.due("part 2", x.comes(2, 0), Hand.UNKNOWN);
            Hand.due("door -1", x.comes(0, -1), Hand.UNKNOWN);
            Hand.due("door 2", x.comes(0, 2), Hand.UNKNOWN);
            Hand.due("the first", x.comes(0, 0), 12);
            Hand.due("the last", x.comes(1, 1), 17);
            x.enter(0, 0);
            Hand.due("not free", x.comes(1, 0), Hand.NONE);
            Hand.due("it is on", x.comes(0, 1), Hand.LATE);
        });
        Hand.test("20 order: how many (order = false), the order (order = true)", () -> {
            OnlyEntrances x = Hand.played("EDmDnDoP11P11P11P10P10P10L02L20");
            Hand.due("how many", x.order(false), 2);
            Hand.due("the order", x.order(true), 132456);
            x = Hand.played("EDmDnP11P11L01L10L01L10L01L10");
            Hand.due("all six lines", x.order(false), 6);
            Hand.due("by the first order", x.order(true), 12);
        });
        Hand.test("20 order: as great a number as can be", () -> {
            OnlyEntrances x = Hand.played("EDmDnP11P11P11P11P11P11L54");
            Hand.due("5 and 4 first", x.order(true), 561234);
            Hand.due("how many", x.order(false), 1);
        });
    }

    private static void barsAndLeftOut() {
        Hand.test("21 bars: BARS, as bits; NONE. UNKNOWN", () -> {
            OnlyEntrances x = Hand.played("EDmDrP10P10P10P10P10P10L01");
            Hand.due("line -1", x.bars(-1), Hand.UNKNOWN);
            Hand.due("line 1", x.bars(1), Hand.UNKNOWN);
            Hand.due("nobody is on", x.bars(0), Hand.NONE);
            for (int part = 2; part < 6; part++) {
                Hand.stand(x, part, 1, part + 11);
            }
            x.enter(0, 0);
            x.enter(1, 1);
            Hand.due("as many as can be", x.bars(0), 0b111100);
        });
        Hand.test("22 leftOut: which (what = 0), how many (1); NONE. BAD", () -> {
            OnlyEntrances x = Hand.played("EDmDnDoP10P10P10L12L21L12L21L12L21");
            Hand.due("nobody", x.leftOut(0), Hand.NONE);
            Hand.due("nobody, how many", x.leftOut(1), Hand.NONE);
            Hand.due("what -1", x.leftOut(-1), Hand.BAD);
            Hand.due("what 2", x.leftOut(2), Hand.BAD);
            x.enter(1, 0);
            Hand.due("one", x.leftOut(0), 1);
            Hand.due("one, how many", x.leftOut(1), 0);
            x.enter(0, 1);
            x.enter(2, 2);
            Hand.due("who stands in the way", x.leftOut(0), 0);
            Hand.due("of all six lines", x.leftOut(1), 6);
        });
    }

    private static void judge() {
        Hand.test("23 judge: JUDGED; NONE. BAD: n", () -> {
            OnlyEntrances x = Hand.played("EDmP10");
            Hand.due("n -1", x.judge(-1, 0), Hand.BAD);
            Hand.due("n 0", x.judge(0, 0), Hand.BAD);
            Hand.due("n 1", x.judge(1, 100), Hand.NONE);
            Hand.due("n 4", x.judge(4, 100_202_202_203L), Hand.NONE);
            Hand.due("n 5", x.judge(5, 100_202_202_203L), Hand.BAD);
            Hand.due("n least", x.judge(Hand.LEAST, 0), Hand.BAD);
            Hand.due("n greatest", x.judge(Hand.GREATEST, 0), Hand.BAD);
        });
        Hand.test("23 judge: BAD: row (0 or more, 3 n figures at most)", () -> {
            OnlyEntrances x = Hand.played("EDmP10");
            long above = 1;
            for (int n = 1; n <= 4; n++) {
                above *= 1000;
                Hand.due("row 0 of " + n, x.judge(n, 0), 0);
                Hand.due("row -1 of " + n, x.judge(n, -1), Hand.BAD);
                Hand.due("the least row of " + n, x.judge(n, Long.MIN_VALUE), Hand.BAD);
                Hand.due("the greatest row of " + n, x.judge(n, Long.MAX_VALUE), Hand.BAD);
                Hand.due("all figures of " + n, x.judge(n, above - 1), 0);
                Hand.due("one figure more than of " + n, x.judge(n, above), Hand.BAD);
            }
        });
    }

    private static void share() {
        Hand.test("24 share: SHARE. UNKNOWN", () -> {
            OnlyEntrances x = Hand.played("EDmDnP10P10L01");
            Hand.due("part -1", x.share(-1, true), Hand.UNKNOWN);
            Hand.due("part 2", x.share(2, true), Hand.UNKNOWN);
            Hand.due("part 2, below", x.share(2, false), Hand.UNKNOWN);
            Hand.due("not on, above", x.share(0, true), 0);
            Hand.due("not on, below", x.share(0, false), 1);
            x.enter(0, 0);
            x.enter(1, 1);
            Hand.due("above", x.share(1, true), 1);
            Hand.due("below", x.share(1, false), 2);
        });
        Hand.test("24 share: all six lines of two", () -> {
            OnlyEntrances x = Hand.played("EDmDnP10P10L01L10L01L10L01L10");
            x.enter(0, 0);
            x.enter(1, 1);
            Hand.due("three", Hand.share(x, 0), Hand.fraction(3, 1));
            x.say(0);
            Hand.due("five halves", Hand.share(x, 1), Hand.fraction(5, 2));
        });
        Hand.test("24 share: least terms below 0", () -> {
            OnlyEntrances x = Hand.played("EDmDoP10P10P10L01L10L01");
            Hand.stand(x, 2, 0, 13);
            x.enter(0, 0);
            x.enter(1, 1);
            Hand.due("above", x.share(2, true), -1);
            Hand.due("below", x.share(2, false), 1);
        });
    }

    private static void treadAndDoors() {
        Hand.test("25 tread: TROD: how many there are. UNKNOWN: cell; BAD: m; FULL: 6", () -> {
            OnlyEntrances x = Hand.played("EDm");
            Hand.due("cell -1", x.tread(-1, 0), Hand.UNKNOWN);
            Hand.due("cell 18", x.tread(18, 0), Hand.UNKNOWN);
            Hand.due("m -1", x.tread(0, -1), Hand.BAD);
            Hand.due("m 10", x.tread(0, 10), Hand.BAD);
            Hand.due("cell 0, m 0", x.tread(0, 0), 1);
            Hand.due("cell 17, m 9", x.tread(17, 9), 2);
            for (int many = 3; many <= 6; many++) {
                Hand.due("the same again", x.tread(0, 0), many);
            }
            Hand.due("one more", x.tread(0, 0), Hand.FULL);
            Hand.due("trod", x.about(11), 6);
        });
        Hand.test("26 untread: Nothing is TROD: how much there was", () -> {
            OnlyEntrances x = Hand.played("EDmDr");
            Hand.due("nothing", x.untread(), 0);
            for (int many = 1; many <= 6; many++) {
                x.tread(0, 9);
            }
            Hand.due("no door", x.doors(), 0);
            Hand.due("all six", x.untread(), 6);
            Hand.due("trod", x.about(11), 0);
            Hand.due("each door again", x.doors(), 0b11);
            Hand.due("nothing again", x.untread(), 0);
            Hand.due("there is room", x.tread(12, 0), 1);
            Hand.due("what was trod before is forgotten", x.doors(), 0b01);
        });
        Hand.test("27 doors: DOORS, as bits: none, one, all", () -> {
            OnlyEntrances x = Hand.played("EDmDoDq");
            Hand.due("nothing trod: all", x.doors(), 0b111);
            x.tread(8, 1);
            Hand.due("one", x.doors(), 0b010);
            x.tread(10, 1);
            Hand.due("none", x.doors(), 0);
        });
        Hand.test("27 doors: all six that are TROD are asked", () -> {
            OnlyEntrances x = Hand.played("EDmDr");
            for (int steps = 0; steps < 5; steps++) {
                x.tread(12 + steps, steps);
            }
            Hand.due("five", x.doors(), 0b01);
            x.tread(17, 0);
            Hand.due("the sixth is by the other", x.doors(), 0);
        });
    }

    private static void rests() {
        Hand.test("28 rests: how many (what = 0), the first one (1); NONE. UNKNOWN: part, other; BAD: both are one, what", () -> {
            OnlyEntrances x = Hand.played("EDmDrP10P10");
            Hand.due("part -1", x.rests(-1, 0, 0), Hand.UNKNOWN);
            Hand.due("part 2", x.rests(2, 0, 0), Hand.UNKNOWN);
            Hand.due("other -1", x.rests(0, -1, 0), Hand.UNKNOWN);
            Hand.due("other 2", x.rests(0, 2, 0), Hand.UNKNOWN);
            Hand.due("both are one", x.rests(1, 1, 0), Hand.BAD);
            Hand.due("what -1", x.rests(0, 1, -1), Hand.BAD);
            Hand.due("what 2", x.rests(0, 1, 2), Hand.BAD);
            Hand.due("how many", x.rests(0, 1, 0), 2);
            Hand.due("the first", x.rests(0, 1, 1), 1);
            Hand.due("none", Hand.played("EP10P10").rests(0, 1, 1), Hand.NONE);
        });
        Hand.test("28 rests: LATE: one is ON", () -> {
            OnlyEntrances x = Hand.played("EDmDrP10P10P10");
            x.enter(0, 0);
            Hand.due("the one", x.rests(0, 1, 0), Hand.LATE);
            Hand.due("the other", x.rests(1, 0, 0), Hand.LATE);
            Hand.due("two others, by the door that is left", x.rests(1, 2, 0), 2);
            x.undo();
            Hand.due("undone", x.rests(0, 1, 0), 2);
        });
        Hand.test("28 rests: the first of three doors each", () -> {
            OnlyEntrances x = Hand.played("EDmDoDqP11P11P10P10");
            Hand.stand(x, 2, 0, 0);
            Hand.stand(x, 3, 1, 2);
            Hand.due("one alone is seen by its door", x.rests(0, 1, 1), 20);
            Hand.due("the other by any that is free", x.rests(0, 1, 0), 2);
        });
    }

    private static void gives() {
        Hand.test("29 gives: BAD: m, x", () -> {
            OnlyEntrances x = Hand.played("EDmP93");
            x.enter(0, 0);
            Hand.due("m -1", x.gives(-1, 5, true), Hand.BAD);
            Hand.due("m 7", x.gives(7, 5, true), Hand.BAD);
            Hand.due("x -1", x.gives(1, -1, true), Hand.BAD);
            Hand.due("x 11", x.gives(1, 11, true), Hand.BAD);
            Hand.due("m 0, x 0", Hand.gives(x, 0, 0), Hand.fraction(1, 1));
            Hand.due("m 6, x 10", Hand.gives(x, 6, 10), Hand.fraction(0, 1));
            Hand.due("m 1, x 10", Hand.gives(x, 1, 10), Hand.fraction(1, 1));
            Hand.due("m 1, x 0", Hand.gives(x, 1, 0), Hand.fraction(0, 1));
        });
        Hand.test("29 gives: the last COLUMN does as the first", () -> {
            for (char door = 'm'; door <= 'r'; door++) {
                OnlyEntrances x = Hand.played("ED" + door + "P83");
                x.enter(0, 0);
                Hand.due("column of " + door, Hand.gives(x, 1, 3), Hand.fraction(3, 10));
                Hand.due("no second", Hand.gives(x, 2, 3), Hand.fraction(0, 1));
            }
        });
    }

    private static void seedAndEvenings() {
        Hand.test("30 seed: THE SEED is v: what it was", () -> {
            OnlyEntrances x = new OnlyEntrances();
            Hand.due("at first", x.seed(Long.MIN_VALUE), 0);
            Hand.due("the least", x.seed(Long.MAX_VALUE), Long.MIN_VALUE);
            Hand.due("the greatest", x.seed(1L << 32), Long.MAX_VALUE);
            Hand.due("beyond an int", x.seed(0), 1L << 32);
        });
        Hand.test("31 evenings: EVENINGS. BAD: m", () -> {
            OnlyEntrances x = Hand.played("EDmDoP11P11");
            x.enter(0, 0);
            x.enter(1, 1);
            Hand.due("m 0", x.evenings(0), Hand.BAD);
            Hand.due("m -1", x.evenings(-1), Hand.BAD);
            Hand.due("m 31", x.evenings(31), Hand.BAD);
            Hand.due("the seed", x.seed(0), 0);
            Hand.due("m 1", x.evenings(1), 2);
            Hand.due("the seed behind it", x.seed(0), 1442695040888963407L);
            Hand.due("m 30", x.evenings(30), 60);
        });
        Hand.test("31 evenings: two in a row are as one of both", () -> {
            OnlyEntrances x = Hand.played("EDmP10"), y = Hand.played("EDmP10");
            x.evenings(10);
            x.evenings(20);
            y.evenings(30);
            Hand.due("the seed", x.seed(0), y.seed(0));
        });
    }

    private static void slots() {
        Hand.test("32 keep: They are kept: THE MINUTE. UNKNOWN", () -> {
            OnlyEntrances x = Hand.played("EDmP10");
            Hand.due("slot -1", x.keep(-1), Hand.UNKNOWN);
            Hand.due("slot 2", x.keep(2), Hand.UNKNOWN);
            Hand.due("at minute 0", x.keep(0), 0);
            x.enter(0, 0);
            Hand.due("at minute 1", x.keep(1), 1);
        });
        Hand.test("33 again: They are as they were kept: THE MINUTE. UNKNOWN; LATE: none were kept", () -> {
            OnlyEntrances x = Hand.played("EDmP10");
            Hand.due("slot -1", x.again(-1), Hand.UNKNOWN);
            Hand.due("slot 2", x.again(2), Hand.UNKNOWN);
            Hand.due("none in 0", x.again(0), Hand.LATE);
            Hand.due("none in 1", x.again(1), Hand.LATE);
            x.enter(0, 0);
            x.keep(1);
            x.walk(0, Hand.FRONT);
            Hand.due("none in 0 still", x.again(0), Hand.LATE);
            Hand.due("in 1", x.again(1), 1);
            Hand.due("where it is", x.part(0, 2), 12);
        });
        Hand.test("33 again: TROD, THE SEED, THE TEXT are not kept", () -> {
            OnlyEntrances x = Hand.played("EDmP10");
            x.keep(0);
            x.tread(1, 1);
            x.seed(8);
            x.write('P');
            x.again(0);
            Hand.due("trod", x.about(11), 1);
            Hand.due("bytes", x.about(12), 7);
            Hand.due("seed", x.seed(0), 8);
        });
    }
}
