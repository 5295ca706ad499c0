import java.math.BigInteger;

/** Each sentence of the Terms that names a bound or an edge has a test of its own. */
public final class TermsTest {
    private static final int ALL_CELLS = (1 << 18) - 1;

    public static void main(String[] args) {
        stage();
        text();
        textOfLines();
        fault();
        made();
        free();
        inLine();
        sight();
        heardAndSeen();
        loads();
        enteredAndWalked();
        saidAndShifted();
        acts();
        ways();
        places();
        comes();
        orders();
        bars();
        leftOut();
        judged();
        shares();
        trod();
        restsOfTwo();
        restsOfFarWays();
        givesWay();
        evenings();
        eveningsLots();
        slots();
        refusals();
        Hand.end("terms");
    }

    // ---- the stage

    private static void stage() {
        Hand.test("THE STAGE has 18 CELLS, told by letters a .. r (a is 0, b 1, .. r 17)", () -> {
            for (char letter = 0; letter < 256; letter++) {
                boolean cell = letter >= 'a' && letter <= 'r';
                Hand.due("fault of EF and byte " + (int) letter, Hand.faultOf("EF" + letter), cell ? Hand.NONE : 2);
                if (cell) {
                    Hand.due("the cell of " + letter, Hand.played("EF" + letter).stool(0), letter - 'a');
                }
            }
        });
        Hand.test("in three ROWS of six: 0 .. 5 the front one, 6 .. 11, 12 .. 17 the back one", () -> {
            for (int last : new int[] {5, 11}) {
                OnlyEntrances x = Hand.played("EDmP10P10");
                Hand.stand(x, 0, 0, last);
                Hand.due("right of " + last, x.walk(0, Hand.RIGHT), Hand.LATE);
                Hand.due("the way from " + last + " to the next row's first", x.way(0, last + 1), 6);
                Hand.lead(x, 0, last + 1);
                Hand.due("left of " + (last + 1), x.walk(0, Hand.LEFT), Hand.LATE);
            }
        });
        Hand.test("its COLUMN is what is left of a CELL by 6", () -> {
            for (int cell = 0; cell < 18; cell++) {
                OnlyEntrances x = Hand.played("EDmP70");
                Hand.stand(x, 0, 0, cell);
                for (int column = 0; column < 6; column++) {
                    Hand.due("load of " + column + " by " + cell, x.load(column), column == cell % 6 ? 7 : 0);
                }
            }
        });
        Hand.test("DOORS are 0, 1, .. (3 at most), STOOLS (4 at most), PARTS (6 at most), LINES (6 at most)", () -> {
            OnlyEntrances x = Hand.played(Hand.FULL_PLAY);
            Hand.due("the last door", x.door(2), 14);
            Hand.due("the last stool", x.stool(3), 3);
            Hand.due("the last part", x.part(5, 0), 6);
            Hand.due("the last part's kind", x.part(5, 1), 3);
            Hand.due("the last line", x.line(5, 0), 5);
            Hand.due("door 3", x.door(3), Hand.UNKNOWN);
            Hand.due("stool 4", x.stool(4), Hand.UNKNOWN);
            Hand.due("part 6", x.part(6, 0), Hand.UNKNOWN);
            Hand.due("line 6", x.line(6, 0), Hand.UNKNOWN);
        });
        Hand.test("The last of each can act as the first", () -> {
            OnlyEntrances x = Hand.played(Hand.FULL_PLAY);
            Hand.stand(x, 0, 0, 12);
            Hand.due("the last part by the last door", x.enter(5, 2), 14);
            Hand.due("its walk", x.walk(5, Hand.LEFT), 13);
            Hand.due("the last line", x.say(5), 1);
            Hand.due("the last stool", x.shift(3, 17), 3);
            Hand.due("the sets", x.about(4), 0b100001);
            Hand.due("the set of lines", x.about(6), 0b100000);
        });
        Hand.test("DOORS 3 at most", () -> {
            Hand.due("three", Hand.faultOf("EDmDnDo"), Hand.NONE);
            Hand.due("four", Hand.faultOf("EDmDnDoDp"), 7);
        });
        Hand.test("STOOLS 4 at most", () -> {
            Hand.due("four", Hand.faultOf("EFaFbFcFd"), Hand.NONE);
            Hand.due("five", Hand.faultOf("EFaFbFcFdFe"), 9);
        });
        Hand.test("PARTS 6 at most", () -> {
            Hand.due("six", Hand.faultOf("EP10P10P10P10P10P10"), Hand.NONE);
            Hand.due("seven", Hand.faultOf("EP10P10P10P10P10P10P10"), 19);
        });
        Hand.test("LINES 6 at most", () -> {
            Hand.due("six", Hand.faultOf("EP10P10L01L01L01L01L01L01"), Hand.NONE);
            Hand.due("seven", Hand.faultOf("EP10P10L01L01L01L01L01L01L01"), 25);
        });
        Hand.test("THE TEXT is bytes (60 at most)", () -> {
            OnlyEntrances x = Hand.told(Hand.FULL_PLAY + "xxxxxxxx");
            Hand.due("the sixtieth", x.write(255), 60);
            Hand.due("one more", x.write(0), Hand.FULL);
            Hand.due("how long it is", x.about(12), 60);
        });
    }

    // ---- the play and its text

    private static void text() {
        Hand.test("A PLAY is a TEXT: E, then THINGS, none or more", () -> {
            Hand.due("no thing", Hand.faultOf("E"), Hand.NONE);
            Hand.due("no E", Hand.faultOf("Dm"), 0);
            Hand.due("two", Hand.faultOf("EE"), 1);
            for (char letter = 0; letter < 256; letter++) {
                Hand.due("first byte " + (int) letter, Hand.faultOf("" + letter), letter == 'E' ? Hand.NONE : 0);
                boolean begins = letter == 'D' || letter == 'F' || letter == 'P';
                Hand.due("second byte " + (int) letter, Hand.faultOf("E" + letter), begins ? 2 : 1);
            }
        });
        Hand.test("numbered as they are told, each kind for itself", () -> {
            OnlyEntrances x = Hand.played("EP70DrFcP81FaDmL01L10");
            Hand.due("door 0", x.door(0), 17);
            Hand.due("door 1", x.door(1), 12);
            Hand.due("stool 0", x.stool(0), 2);
            Hand.due("stool 1", x.stool(1), 0);
            Hand.due("part 0", x.part(0, 0), 7);
            Hand.due("part 1", x.part(1, 0), 8);
            Hand.due("line 0", x.line(0, 0), 0);
            Hand.due("line 1", x.line(1, 0), 1);
        });
        Hand.test("a DOOR at CELL c of the back ROW (m .. r", () -> {
            for (char letter = 0; letter < 256; letter++) {
                boolean back = letter >= 'm' && letter <= 'r';
                Hand.due("ED and byte " + (int) letter, Hand.faultOf("ED" + letter), back ? Hand.NONE : 2);
            }
            Hand.due("the cell of m", Hand.played("EDm").door(0), 12);
            Hand.due("the cell of r", Hand.played("EDr").door(0), 17);
        });
        Hand.test("a DOOR .. where no DOOR is told yet", () -> {
            Hand.due("the same", Hand.faultOf("EDnDn"), 4);
            Hand.due("the same as one before the last", Hand.faultOf("EDnDoDn"), 6);
            Hand.due("others", Hand.faultOf("EDnDoDm"), Hand.NONE);
        });
        Hand.test("a DOOR .. where no STOOL is told yet", () -> {
            Hand.due("a stool's", Hand.faultOf("EFnDn"), 4);
            Hand.due("no stool's", Hand.faultOf("EFnDo"), Hand.NONE);
        });
        Hand.test("a STOOL .. where no DOOR is told yet", () -> {
            Hand.due("a door's", Hand.faultOf("EDnFn"), 4);
            Hand.due("no door's", Hand.faultOf("EDnFo"), Hand.NONE);
        });
        Hand.test("a STOOL .. where no STOOL is told yet", () -> {
            Hand.due("the same", Hand.faultOf("EFaFa"), 4);
            Hand.due("the same, the last cell", Hand.faultOf("EFrFr"), 4);
            Hand.due("another", Hand.faultOf("EFaFb"), Hand.NONE);
        });
        Hand.test("a PART of WEIGHT w (1 .. 9)", () -> {
            for (char letter = 0; letter < 256; letter++) {
                boolean weight = letter >= '1' && letter <= '9';
                Hand.due("EP and byte " + (int) letter, Hand.faultOf("EP" + letter), weight ? 3 : 2);
            }
            Hand.due("the least", Hand.played("EP10").part(0, 0), 1);
            Hand.due("the greatest", Hand.played("EP90").part(0, 0), 9);
        });
        Hand.test("of KIND k (0 PLAIN, 1 BUTLER, 2 GHOST, 3 MAID)", () -> {
            for (char letter = 0; letter < 256; letter++) {
                boolean kind = letter >= '0' && letter <= '3';
                Hand.due("EP1 and byte " + (int) letter, Hand.faultOf("EP1" + letter), kind ? Hand.NONE : 3);
            }
        });
    }

    private static void textOfLines() {
        Hand.test("a LINE that PART i says to another one j (both told ahead): i", () -> {
            for (int parts = 2; parts <= 6; parts++) {
                String begun = "E" + "P10".repeat(parts) + "L";
                for (char letter = 0; letter < 256; letter++) {
                    boolean part = letter >= '0' && letter < '0' + parts;
                    int due = begun.length() + (part ? 1 : 0);
                    Hand.due(begun + " and byte " + (int) letter, Hand.faultOf(begun + letter), due);
                }
            }
        });
        Hand.test("a LINE that PART i says to another one j (both told ahead): j", () -> {
            for (int parts = 2; parts <= 6; parts++) {
                for (int i = 0; i < parts; i += parts - 1) {
                    String begun = "E" + "P10".repeat(parts) + "L" + i;
                    for (char letter = 0; letter < 256; letter++) {
                        boolean part = letter >= '0' && letter < '0' + parts && letter != '0' + i;
                        int due = part ? Hand.NONE : begun.length();
                        Hand.due(begun + " and byte " + (int) letter, Hand.faultOf(begun + letter), due);
                    }
                }
            }
        });
        Hand.test("both told ahead, not behind", () -> {
            Hand.due("who says it", Hand.faultOf("EP10P10L20P10"), 8);
            Hand.due("to whom", Hand.faultOf("EP10P10L02P10"), 9);
        });
    }

    private static void fault() {
        Hand.test("FAULT: the place of the first byte by which THE TEXT can be no PLAY, whatever came behind it", () -> {
            Hand.due("a line, nobody told", Hand.faultOf("EL"), 1);
            Hand.due("a line, nobody told, and more", Hand.faultOf("EL01P10P10"), 1);
            Hand.due("a line, one told", Hand.faultOf("EP10L"), 4);
            Hand.due("a line, one told, and more", Hand.faultOf("EP10L01P10"), 4);
            Hand.due("a fourth door, begun", Hand.faultOf("EDmDnDoD"), 7);
            Hand.due("a fifth stool, begun", Hand.faultOf("EFaFbFcFdF"), 9);
            Hand.due("a seventh part, begun", Hand.faultOf("EP10P10P10P10P10P10P"), 19);
            Hand.due("a seventh line, begun", Hand.faultOf("EP10P10L01L01L01L01L01L01L"), 25);
            Hand.due("of two the first", Hand.faultOf("EP14DaDa"), 3);
        });
        Hand.test("FAULT: no CELL of the back ROW is left for a DOOR", () -> {
            Hand.due("two doors, four stools", Hand.faultOf("EFmFnFoFpDqDrD"), 13);
            Hand.due("two doors, four stools, and a cell", Hand.faultOf("EFmFnFoFpDqDrDm"), 13);
            Hand.due("two doors, three stools there", Hand.faultOf("EFlFnFoFpDqDrD"), 14);
            Hand.due("its last cell", Hand.faultOf("EFlFnFoFpDqDrDm"), Hand.NONE);
        });
        Hand.test("its length, if it is only not at its end; NONE: none (its length set aside)", () -> {
            String play = Hand.FULL_PLAY;
            int thing = 1;
            for (int length = 1; length <= play.length(); length++) {
                String cut = play.substring(0, length);
                Hand.due("fault of " + cut, Hand.faultOf(cut), length == thing ? Hand.NONE : length);
                if (length == thing && length < play.length()) {
                    thing += "DF".indexOf(play.charAt(length)) >= 0 ? 2 : 3;
                }
            }
        });
        Hand.test("FAULT: behind all that may be told no byte can be", () -> {
            for (char letter = 0; letter < 256; letter++) {
                Hand.due("byte " + (int) letter, Hand.faultOf(Hand.FULL_PLAY + letter), 51);
            }
        });
        Hand.test("FAULT: what comes behind it moves it not", () -> {
            OnlyEntrances x = Hand.told("EDl");
            while (x.write('D') > 0) {
                Hand.due("at length " + x.about(12), x.fault(), 2);
            }
            Hand.due("of a full text", x.fault(), 2);
        });
        Hand.test("At first there is nothing", () -> {
            OnlyEntrances x = new OnlyEntrances();
            Hand.due("fault", x.fault(), 0);
            Hand.due("bytes", x.about(12), 0);
            Hand.due("parts", x.about(2), 0);
        });
    }

    private static void made() {
        Hand.test("When THE PLAY is made anew, nobody is ON, nothing was SAID, THE MINUTE is 0", () -> {
            OnlyEntrances x = Hand.played("EDmDnFaP10P10L01");
            x.enter(0, 0);
            x.enter(1, 1);
            x.say(0);
            x.shift(0, 5);
            x.play();
            Hand.due("who is on", x.about(4), 0);
            Hand.due("what was said", x.about(6), 0);
            Hand.due("the minute", x.about(9), 0);
            Hand.due("the stool is where it is told", x.stool(0), 0);
        });
        Hand.test("made anew by another text: what the first one told is gone", () -> {
            OnlyEntrances x = Hand.played(Hand.FULL_PLAY);
            Hand.stand(x, 5, 2, 14);
            x.wipe();
            Hand.write(x, "EDr");
            Hand.due("play", x.play(), 1000);
            Hand.due("door", x.door(0), 17);
            Hand.due("door 1", x.door(1), Hand.UNKNOWN);
            Hand.due("stool 0", x.stool(0), Hand.UNKNOWN);
            Hand.due("part 0", x.part(0, 2), Hand.UNKNOWN);
            Hand.due("line 0", x.line(0, 2), Hand.UNKNOWN);
            Hand.due("all cells are free", x.about(8), ALL_CELLS);
        });
        Hand.test("made anew by another text: who was a GHOST is none", () -> {
            OnlyEntrances x = Hand.played("EDmP12P12P12");
            x.wipe();
            Hand.write(x, "EDmP10P10P10L02");
            x.play();
            Hand.stand(x, 0, 0, 0);
            Hand.stand(x, 1, 0, 6);
            x.enter(2, 0);
            Hand.due("who is seen", x.about(5), 0b001);
            Hand.due("who bars", x.bars(0), 0b010);
            Hand.due("what is heard", x.about(7), 0);
        });
        Hand.test("made anew by another text: where a DOOR, a STOOL was told one may be told", () -> {
            OnlyEntrances x = Hand.played("EDmFnFa");
            x.wipe();
            Hand.write(x, "EDnFmFa");
            Hand.due("fault", x.fault(), Hand.NONE);
            Hand.due("play", x.play(), 1200);
            Hand.due("door", x.door(0), 13);
            Hand.due("to where the door was", x.shift(1, 12), Hand.LATE);
            Hand.due("to where the stool was", x.shift(1, 14), 0);
        });
    }

    private static void free() {
        Hand.test("FREE is a CELL where no PART, no STOOL is", () -> {
            OnlyEntrances x = Hand.played("EDmDrFaFqP10P11P12P13");
            int free = ALL_CELLS & ~(1 | 1 << 16);
            Hand.due("stools; doors are free", x.about(8), free);
            for (int part = 3; part >= 0; part--) {
                x.enter(part, part % 2);
                Hand.due("with part " + part + " of each kind", x.part(part, 2) >= 0 ? x.about(8) : 0,
                    free & ~(1 << 12 + 5 * (part % 2)));
                x.undo();
                Hand.due("without it", x.about(8), free);
            }
        });
        Hand.test("a CELL that was left is FREE again", () -> {
            OnlyEntrances x = Hand.played("EDmFaP10");
            Hand.stand(x, 0, 0, 6);
            Hand.due("after a walk", x.about(8), ALL_CELLS & ~(1 | 1 << 6));
            x.shift(0, 17);
            Hand.due("after a stool was shifted", x.about(8), ALL_CELLS & ~(1 << 17 | 1 << 6));
            Hand.due("one can go there", x.walk(0, Hand.FRONT), 0);
        });
    }

    private static void inLine() {
        Hand.test("IN LINE, if they are in one ROW, in one COLUMN, or as many ROWS as COLUMNS apart", () -> {
            for (int one = 0; one < 18; one++) {
                for (int other = 0; other < 18; other++) {
                    int rows = Math.abs(one / 6 - other / 6), columns = Math.abs(one % 6 - other % 6);
                    boolean inLine = rows == 0 || columns == 0 || rows == columns;
                    if (one != other) {
                        OnlyEntrances x = Hand.played("EDmDrP10P10L01");
                        Hand.stand(x, 0, 0, one);
                        Hand.stand(x, 1, one == 12 ? 1 : 0, other);
                        String cells = one + " and " + other;
                        Hand.due("sight of " + cells, x.part(0, 3), inLine ? 2 : 0);
                        Hand.due("sight of " + cells + ", back", x.part(1, 3), inLine ? 1 : 0);
                        Hand.due("heard by " + cells, x.line(0, 3), inLine ? 1 : 0);
                        Hand.due("bars of " + cells, x.bars(0), inLine ? 0 : Hand.NONE);
                    }
                }
            }
        });
    }

    private static void sight() {
        Hand.test("SIGHT: two PARTS that are ON have it", () -> {
            OnlyEntrances x = Hand.played("EDmDnP10P10");
            Hand.due("neither is on", x.part(0, 3), 0);
            x.enter(0, 0);
            Hand.due("one is on", x.part(0, 3), 0);
            Hand.due("the other is not", x.part(1, 3), 0);
            x.enter(1, 1);
            Hand.due("both are", x.part(0, 3), 2);
        });
        Hand.test("in none between them there is a STOOL", () -> {
            OnlyEntrances x = Hand.played("EDmDqFaP10P10");
            x.enter(0, 0);
            x.enter(1, 1);
            int[] cells = {13, 14, 15, 17, 11, 6, 8};
            for (int cell : cells) {
                x.shift(0, cell);
                Hand.due("a stool at " + cell, x.part(0, 3), cell > 12 && cell < 16 ? 0 : 2);
            }
        });
        Hand.test("between them: in a ROW, in a COLUMN, and aslant each way", () -> {
            int[][] ends = {{0, 2}, {3, 5}, {6, 8}, {14, 16}, {0, 12}, {2, 14}, {5, 17}, {0, 14}, {3, 17}, {2, 12}, {5, 15}};
            for (int[] end : ends) {
                OnlyEntrances x = Hand.played("EDnDpFjP10P10P10L12L21");
                Hand.stand(x, 1, 0, end[0]);
                Hand.stand(x, 2, end[0] == 14 ? 1 : 0, end[1]);
                String cells = " between " + end[0] + " and " + end[1];
                int middle = (end[0] + end[1]) / 2;
                Hand.due("sight with nobody" + cells, x.part(1, 3), 0b100);
                if (middle != 13 && middle != 15) {
                    x.shift(0, middle);
                    Hand.due("sight with a stool" + cells, x.part(1, 3), 0);
                    Hand.due("bars with a stool" + cells, x.bars(0), Hand.NONE);
                    x.shift(0, 9);
                }
                Hand.stand(x, 0, middle % 6 < 3 || end[1] == 15 ? 0 : 1, middle);
                Hand.due("sight with a part" + cells, x.part(1, 3) & 0b100, 0);
                Hand.due("back" + cells, x.part(2, 3) & 0b010, 0);
                Hand.due("bars with a part" + cells, x.bars(0), 0b001);
                Hand.due("bars the other way" + cells, x.bars(1), 0b001);
                Hand.due("lines heard" + cells, x.about(7), 0);
            }
        });
        Hand.test("between them: all CELLS of a whole ROW", () -> {
            for (int first = 0; first < 18; first += 6) {
                for (int gap = first + 1; gap < first + 5; gap++) {
                    OnlyEntrances x = Hand.played("EDmDrP10P10P10L01");
                    Hand.stand(x, 0, 0, first);
                    Hand.stand(x, 2, 1, gap);
                    Hand.stand(x, 1, 1, first + 5);
                    Hand.due("bars by " + gap, x.bars(0), 0b100);
                    Hand.due("heard by " + gap, x.about(7), 0);
                }
            }
        });
        Hand.test("in none between them there is .. a PART but a GHOST", () -> {
            for (int kind = 0; kind < 4; kind++) {
                OnlyEntrances x = Hand.played("EDmDoDnP1" + kind + "P10P10");
                x.enter(0, 2);
                x.enter(1, 0);
                x.enter(2, 1);
                Hand.due("kind " + kind + " between", x.part(1, 3), kind == 2 ? 0b101 : 0b001);
            }
        });
        Hand.test("between them: the two themselves are not, nor who is beyond", () -> {
            OnlyEntrances x = Hand.played("EDmDrP12P12P10P10");
            Hand.stand(x, 2, 0, 13);
            Hand.stand(x, 0, 0, 14);
            Hand.stand(x, 1, 1, 16);
            x.enter(3, 1);
            Hand.due("ghosts see", x.part(0, 3), 0b1110);
            Hand.due("who is at the end sees by the ghosts", x.part(2, 3), 0b1011);
        });
        Hand.test("one that is not ON is between none", () -> {
            OnlyEntrances x = Hand.played("EDmDoP10P10P10");
            x.enter(0, 0);
            x.enter(1, 1);
            Hand.due("sight", x.part(0, 3), 2);
        });
    }

    private static void heardAndSeen() {
        Hand.test("HEARD is a LINE that was not SAID, if its two PARTS have SIGHT", () -> {
            OnlyEntrances x = Hand.played("EDmDnP10P10P10L01L10L12");
            Hand.due("nobody is on", x.about(7), 0);
            x.enter(0, 0);
            Hand.due("one is on", x.about(7), 0);
            x.enter(1, 1);
            Hand.due("two are on", x.about(7), 0b011);
            x.say(0);
            Hand.due("one was said", x.about(7), 0b010);
            Hand.lead(x, 0, 6);
            Hand.lead(x, 1, 14);
            Hand.due("they are not in line", x.about(7), 0);
            Hand.lead(x, 1, 8);
            Hand.due("they are again", x.about(7), 0b010);
        });
        Hand.test("SEEN is a PART that is ON, if no other one but GHOSTS is in its COLUMN nearer to the front", () -> {
            for (int kind = 0; kind < 4; kind++) {
                OnlyEntrances x = Hand.played("EDmDnP10P1" + kind);
                Hand.due("nobody is on", x.about(5), 0);
                Hand.stand(x, 0, 0, kind == 1 ? 13 : 0);
                if (kind != 1) {
                    Hand.stand(x, 1, 0, 6);
                    Hand.due("who is nearer, and who is behind", x.about(5), 0b01);
                    Hand.lead(x, 1, 12);
                    Hand.due("two rows behind", x.about(5), 0b01);
                    Hand.lead(x, 0, 7);
                    Hand.due("in another column", x.about(5), 0b11);
                    Hand.lead(x, 1, 0);
                    Hand.lead(x, 0, 6);
                    Hand.due("kind " + kind + " nearer", x.about(5), kind == 2 ? 0b11 : 0b10);
                    Hand.lead(x, 0, 12);
                    Hand.due("kind " + kind + " two rows nearer", x.about(5), kind == 2 ? 0b11 : 0b10);
                    Hand.lead(x, 1, 6);
                    Hand.due("kind " + kind + " in the middle row", x.about(5), kind == 2 ? 0b11 : 0b10);
                }
            }
        });
        Hand.test("SEEN: a STOOL hides nobody", () -> {
            OnlyEntrances x = Hand.played("EDmFaFgP10");
            x.enter(0, 0);
            Hand.due("behind two stools", x.about(5), 1);
        });
        Hand.test("SEEN: a BUTLER at the back hides nobody nearer", () -> {
            OnlyEntrances x = Hand.played("EDmP10P11");
            Hand.stand(x, 0, 0, 6);
            x.enter(1, 0);
            Hand.due("seen", x.about(5), 0b01);
        });
    }

    private static void loads() {
        Hand.test("LOAD of a COLUMN: WEIGHTS of PARTS that are in it (MAID: 2 more each), together", () -> {
            OnlyEntrances x = Hand.played("EDmDrP93P93P93P92P91");
            Hand.due("nobody", x.load(0), 0);
            Hand.stand(x, 0, 0, 0);
            Hand.due("one maid", x.load(0), 11);
            Hand.stand(x, 1, 0, 6);
            Hand.due("two maids", x.load(0), 22);
            Hand.stand(x, 2, 0, 12);
            Hand.due("three maids", x.load(0), 33);
            Hand.due("the next column", x.load(1), 0);
            x.enter(3, 1);
            Hand.due("a ghost has its weight", x.load(5), 9);
            Hand.lead(x, 3, 11);
            x.enter(4, 1);
            Hand.due("so has a butler", x.load(5), 18);
        });
    }

    // ---- the acts

    private static void enteredAndWalked() {
        Hand.test("ENTERED: a PART that is not ON is ON, at the CELL of a DOOR that is FREE", () -> {
            OnlyEntrances x = Hand.played("EDmDrP10P12P10");
            Hand.due("by the first", x.enter(0, 0), 12);
            Hand.due("who is on", x.enter(0, 1), Hand.LATE);
            Hand.due("a door with a part", x.enter(1, 0), Hand.LATE);
            Hand.due("by the second", x.enter(1, 1), 17);
            Hand.due("a door with a ghost", x.enter(2, 1), Hand.LATE);
            Hand.lead(x, 0, 6);
            Hand.due("a door that is free again", x.enter(2, 0), 12);
        });
        Hand.test("WALKED: one that is ON, and no BUTLER", () -> {
            for (int kind = 0; kind < 4; kind++) {
                OnlyEntrances x = Hand.played("EDnP1" + kind);
                Hand.due("kind " + kind + ", not on", x.walk(0, Hand.FRONT), Hand.LATE);
                x.enter(0, 0);
                Hand.due("kind " + kind, x.walk(0, Hand.FRONT), kind == 1 ? Hand.LATE : 7);
            }
        });
        Hand.test("0 left: 1 less, 1 right: 1 more, 2 to the front: 6 less, 3 back: 6 more; within ROW and STAGE", () -> {
            int[] less = {-1, 1, -6, 6};
            for (int cell = 0; cell < 18; cell++) {
                for (int way = 0; way < 4; way++) {
                    OnlyEntrances x = Hand.played("EDoP10");
                    Hand.stand(x, 0, 0, cell);
                    int due = Hand.beside(cell, way) < 0 ? Hand.LATE : cell + less[way];
                    Hand.due("from " + cell + " by " + way, x.walk(0, way), due);
                    Hand.due("it is at", x.part(0, 2), due == Hand.LATE ? cell : due);
                }
            }
        });
        Hand.test("goes to the next CELL .. if it is FREE", () -> {
            for (int kind = 0; kind < 4; kind++) {
                OnlyEntrances x = Hand.played("EDmDnFgP10P1" + kind);
                x.enter(0, 0);
                x.enter(1, 1);
                Hand.due("kind " + kind + " is there", x.walk(0, Hand.RIGHT), Hand.LATE);
                Hand.due("a stool is there", x.walk(0, Hand.FRONT), Hand.LATE);
            }
        });
        Hand.test("a PART may walk to the CELL of a DOOR", () -> {
            OnlyEntrances x = Hand.played("EDmDnP10");
            x.enter(0, 0);
            Hand.due("right", x.walk(0, Hand.RIGHT), 13);
        });
    }

    private static void saidAndShifted() {
        Hand.test("SAID: a LINE that is HEARD", () -> {
            OnlyEntrances x = Hand.played("EDmDnP10P10L01L10");
            Hand.due("nobody is on", x.say(0), Hand.LATE);
            x.enter(0, 0);
            Hand.due("one is on", x.say(0), Hand.LATE);
            x.enter(1, 1);
            Hand.due("both are", x.say(0), 1);
            Hand.due("it was said", x.say(0), Hand.LATE);
            Hand.lead(x, 0, 6);
            Hand.lead(x, 1, 14);
            Hand.due("no sight", x.say(1), Hand.LATE);
        });
        Hand.test("SHIFTED: a STOOL is at another CELL that is FREE, and no DOOR's", () -> {
            OnlyEntrances x = Hand.played("EDmDrFaFjP10P12");
            x.enter(0, 0);
            Hand.lead(x, 0, 7);
            x.enter(1, 0);
            Hand.lead(x, 1, 8);
            for (int cell = 0; cell < 18; cell++) {
                boolean can = cell != 0 && cell != 7 && cell != 8 && cell != 9 && cell != 12 && cell != 17;
                Hand.due("to " + cell, x.shift(0, cell), can ? 0 : Hand.LATE);
                Hand.due("it is at", x.stool(0), can ? cell : 0);
                if (can) {
                    x.undo();
                }
            }
        });
        Hand.test("By each THE MINUTE is one more", () -> {
            OnlyEntrances x = Hand.played("EDmDnFaP10P10L01");
            x.enter(0, 0);
            Hand.due("entered", x.about(9), 1);
            x.enter(1, 1);
            x.walk(1, Hand.RIGHT);
            Hand.due("walked", x.about(9), 3);
            x.say(0);
            Hand.due("said", x.about(9), 4);
            x.shift(0, 4);
            Hand.due("shifted", x.about(9), 5);
            x.shift(0, 4);
            x.say(0);
            x.walk(0, Hand.LEFT);
            x.enter(0, 0);
            Hand.due("what can not be", x.about(9), 5);
        });
    }

    /** Acts of all four kinds, the minute being the number of each; then a part goes to and fro. */
    private static OnlyEntrances acted(int many) {
        OnlyEntrances x = Hand.played("EDmDnFfP10P10L01");
        for (int act = 0; act < many; act++) {
            switch (act) {
                case 0: x.enter(0, 0); break;
                case 1: x.enter(1, 1); break;
                case 2: x.say(0); break;
                case 3: x.shift(0, 4); break;
                default: x.walk(0, act % 2 == 0 ? Hand.FRONT : Hand.BACK); break;
            }
        }
        return x;
    }

    private static void acts() {
        Hand.test("ACTS are a row (14 at most; when it is full, the first one is forgotten)", () -> {
            for (int many = 0; many <= 20; many++) {
                OnlyEntrances x = acted(many);
                int kept = Math.min(14, many);
                Hand.due("after " + many, x.about(10), kept);
                Hand.due("the minute after " + many, x.about(9), many);
                for (int left = kept - 1; left >= 0; left--) {
                    Hand.due("undo of " + many, x.undo(), left);
                    Hand.same("where all are", place(x), place(acted(many - kept + left)));
                }
                Hand.due("undo of none", x.undo(), Hand.LATE);
            }
        });
        Hand.test("the last one can be undone: behind that there is room for another", () -> {
            OnlyEntrances x = acted(15);
            x.undo();
            x.walk(1, Hand.FRONT);
            Hand.due("acts", x.about(10), 14);
            for (int left = 13; left >= 0; left--) {
                Hand.due("undo", x.undo(), left);
            }
            Hand.due("the minute of the one that was forgotten", x.about(9), 1);
            Hand.due("where it came", x.part(0, 2), 12);
        });
        Hand.test("what can not be is no ACT", () -> {
            OnlyEntrances x = acted(4);
            x.enter(0, 0);
            x.walk(0, Hand.LEFT);
            x.say(0);
            x.shift(0, 12);
            Hand.due("acts", x.about(10), 4);
        });
    }

    private static String place(OnlyEntrances x) {
        return x.about(9) + " " + x.part(0, 2) + " " + x.part(1, 2) + " " + x.about(6) + " " + x.stool(0);
    }

    // ---- ways, places and orders

    private static void ways() {
        Hand.test("WAY of a PART that is ON to a CELL: the fewest steps; 0 to its own", () -> {
            for (int from = 0; from < 18; from++) {
                OnlyEntrances x = Hand.played("EDpP10");
                Hand.stand(x, 0, 0, from);
                for (int to = 0; to < 18; to++) {
                    int due = Math.abs(from / 6 - to / 6) + Math.abs(from % 6 - to % 6);
                    Hand.due("from " + from + " to " + to, x.way(0, to), due);
                }
            }
        });
        Hand.test("through FREE CELLS: the longest way round", () -> {
            OnlyEntrances x = Hand.played("EDmFbFhFjFpP10");
            Hand.stand(x, 0, 0, 0);
            int[] due = {0, -9, 6, 7, 8, 9, 1, -9, 5, -9, 9, 10, 2, 3, 4, -9, 10, 11};
            for (int cell = 0; cell < 18; cell++) {
                Hand.due("to " + cell, x.way(0, cell), due[cell]);
            }
            Hand.due("to how many", x.part(0, 4), 14);
        });
        Hand.test("NONE: to a CELL that is not FREE, or beyond such", () -> {
            OnlyEntrances x = Hand.played("EDmFgFoP10P12P10");
            Hand.stand(x, 1, 0, 13);
            x.enter(0, 0);
            Hand.due("to a stool", x.way(0, 6), Hand.NONE);
            Hand.due("to a ghost", x.way(0, 13), Hand.NONE);
            Hand.due("beyond", x.way(0, 0), Hand.NONE);
            Hand.due("its own", x.way(0, 12), 0);
            Hand.due("how many", x.part(0, 4), 1);
            Hand.lead(x, 1, 7);
            Hand.due("past where it was", x.way(0, 13), 1);
            Hand.due("but no farther", x.part(0, 4), 2);
        });
        Hand.test("NONE (a BUTLER: to any other)", () -> {
            OnlyEntrances x = Hand.played("EDoP11");
            x.enter(0, 0);
            for (int cell = 0; cell < 18; cell++) {
                Hand.due("to " + cell, x.way(0, cell), cell == 14 ? 0 : Hand.NONE);
            }
            Hand.due("to how many", x.part(0, 4), 1);
        });
    }

    private static void places() {
        Hand.test("PLACE: that by which most of its LINES (said by it or to it) would be HEARD", () -> {
            OnlyEntrances x = Hand.played("EDmDrP10P11P11L01L20L12");
            x.enter(1, 0);
            Hand.stand(x, 0, 1, 11);
            x.enter(2, 1);
            Hand.due("how many of its own", x.place(0, 1), 2);
            Hand.due("the nearest where both are heard", x.place(0, 0), 16);
        });
        Hand.test("PLACE: LINES of others are not its own", () -> {
            OnlyEntrances x = Hand.played("EDmDrP10P10P10L12L20");
            x.enter(1, 0);
            Hand.stand(x, 0, 1, 4);
            Hand.stand(x, 2, 1, 16);
            Hand.due("how many", x.place(0, 1), 1);
            Hand.due("its own cell", x.place(0, 0), 4);
            Hand.lead(x, 0, 15);
            Hand.due("how many, in the others' way", x.place(0, 1), 1);
            Hand.due("where it stands in their way", x.place(0, 0), 15);
        });
        Hand.test("PLACE: the first CELL, and the last", () -> {
            OnlyEntrances x = Hand.played("EDmDrP10P10L01");
            Hand.stand(x, 0, 0, 6);
            Hand.stand(x, 1, 1, 2);
            Hand.due("of 0 and others, one step off", x.place(0, 0), 0);
            Hand.lead(x, 1, 3);
            Hand.lead(x, 0, 11);
            Hand.due("17 and 5 and 10 are one step off", x.place(0, 0), 5);
            Hand.lead(x, 1, 12);
            Hand.due("17 alone is one step off", x.place(0, 0), 17);
        });
        Hand.test("PLACE: of like ones that of the shortest WAY", () -> {
            OnlyEntrances x = Hand.played("EDmDrP10P11L01");
            x.enter(1, 0);
            Hand.stand(x, 0, 1, 10);
            Hand.due("16 is one step off, 0, 2, 6 and 7 are farther", x.place(0, 0), 16);
            Hand.due("how many", x.place(0, 1), 1);
            Hand.lead(x, 0, 16);
            Hand.due("its own is none", x.place(0, 0), 16);
        });
        Hand.test("PLACE: then the least", () -> {
            OnlyEntrances x = Hand.played("EDmDpP10P11L01");
            x.enter(1, 1);
            Hand.stand(x, 0, 0, 7);
            Hand.due("of 1, 8 and 13, each one step off", x.place(0, 0), 1);
        });
        Hand.test("PLACE: no LINE would be HEARD: its own CELL", () -> {
            OnlyEntrances x = Hand.played("EDmP10P10L01");
            Hand.stand(x, 0, 0, 8);
            Hand.due("which", x.place(0, 0), 8);
            Hand.due("how many", x.place(0, 1), 0);
            x = Hand.played("EDmP10");
            Hand.stand(x, 0, 0, 9);
            Hand.due("no lines at all, which", x.place(0, 0), 9);
            Hand.due("no lines at all, how many", x.place(0, 1), 0);
        });
        Hand.test("PLACE: of CELLS to which it has a WAY", () -> {
            OnlyEntrances x = Hand.played("EDmDrFgFnP10P11L01");
            x.enter(0, 0);
            x.enter(1, 1);
            Hand.due("shut in", x.place(0, 0), 12);
            Hand.due("shut in, how many", x.place(0, 1), 0);
            x.shift(0, 0);
            Hand.due("let out, how many", x.place(0, 1), 1);
            Hand.due("let out, the nearest in line with 17", x.place(0, 0), 14);
        });
        Hand.test("PLACE of a BUTLER is its own CELL", () -> {
            OnlyEntrances x = Hand.played("EDmDrP10P11L01");
            Hand.stand(x, 0, 1, 10);
            x.enter(1, 0);
            Hand.due("which", x.place(1, 0), 12);
            Hand.due("how many", x.place(1, 1), 0);
        });
        Hand.test("PLACE: a LINE that was SAID would not be HEARD", () -> {
            OnlyEntrances x = Hand.played("EDmDrP10P11L01");
            x.enter(0, 0);
            x.enter(1, 1);
            Hand.due("how many", x.place(0, 1), 1);
            x.say(0);
            Hand.due("how many, when it was said", x.place(0, 1), 0);
        });
    }

    private static void comes() {
        Hand.test("COMES: it ENTERS, if that is FREE (else it does not come)", () -> {
            OnlyEntrances x = Hand.played("EDmDrP10P12P10");
            Hand.due("a free door", x.comes(2, 0), 12);
            x.enter(0, 0);
            x.enter(1, 1);
            Hand.due("a door with a part", x.comes(2, 0), Hand.NONE);
            Hand.due("a door with a ghost", x.comes(2, 1), Hand.NONE);
        });
        Hand.test("COMES: it goes the shortest WAY to a CELL where it is SEEN", () -> {
            OnlyEntrances x = Hand.played("EDmP10P10P10P12");
            Hand.due("seen at the door", x.comes(0, 0), 12);
            Hand.stand(x, 1, 0, 0);
            Hand.due("one step", x.comes(0, 0), 13);
            Hand.due("a ghost as well", x.comes(3, 0), 13);
            Hand.stand(x, 2, 0, 7);
            Hand.due("two steps", x.comes(0, 0), 14);
            Hand.lead(x, 2, 13);
            Hand.due("two steps the other way", x.comes(0, 0), 7);
        });
        Hand.test("COMES: the longest WAY round", () -> {
            OnlyEntrances x = Hand.played("EDmDrFdFeFfFnP10P10P10P10P10");
            Hand.stand(x, 0, 1, 9);
            Hand.lead(x, 0, 8);
            Hand.stand(x, 1, 0, 0);
            Hand.lead(x, 0, 2);
            Hand.stand(x, 2, 0, 1);
            Hand.stand(x, 3, 1, 9);
            Hand.due("six steps", x.comes(4, 0), 16);
        });
        Hand.test("COMES: of like ones the least", () -> {
            OnlyEntrances x = Hand.played("EDpP10P10P10");
            Hand.stand(x, 0, 0, 3);
            Hand.due("of 14 and 16", x.comes(1, 0), 14);
            Hand.stand(x, 1, 0, 14);
            Hand.due("16 alone", x.comes(2, 0), 16);
            Hand.lead(x, 1, 8);
            Hand.due("16, for 14 is hidden", x.comes(2, 0), 16);
        });
        Hand.test("COMES: none: it stays at the DOOR", () -> {
            OnlyEntrances x = Hand.played("EDmDrFgFbP10P10");
            Hand.stand(x, 0, 1, 7);
            Hand.lead(x, 0, 13);
            x.shift(1, 0);
            Hand.due("shut in, but seen", x.comes(1, 0), 12);
            Hand.lead(x, 0, 7);
            x.shift(0, 1);
            Hand.lead(x, 0, 6);
            x.shift(1, 13);
            Hand.due("shut in, and not seen", x.comes(1, 0), 12);
        });
        Hand.test("COMES: a BUTLER has no WAY but to its own CELL", () -> {
            OnlyEntrances x = Hand.played("EDmP10P11P13");
            Hand.due("a butler that is seen", x.comes(1, 0), 12);
            Hand.stand(x, 0, 0, 6);
            Hand.due("a butler that is not", x.comes(1, 0), 12);
            Hand.due("a maid goes", x.comes(2, 0), 13);
        });
        Hand.test("COMES: GHOSTS hide nobody", () -> {
            OnlyEntrances x = Hand.played("EDmP12P10");
            Hand.stand(x, 0, 0, 6);
            Hand.due("behind a ghost", x.comes(1, 0), 12);
        });
    }

    private static void orders() {
        Hand.test("ORDER: 0: all are ON", () -> {
            Hand.due("nobody is told", new OnlyEntrances().order(true), 0);
            Hand.due("nobody is told, how many", new OnlyEntrances().order(false), 0);
            OnlyEntrances x = Hand.played("EDmDnP10P10L01L10");
            x.enter(0, 0);
            x.enter(1, 1);
            Hand.due("all are on", x.order(true), 0);
            Hand.due("all are on, how many are heard", x.order(false), 2);
        });
        Hand.test("ORDER: of like ones the first (figures, 1 more each; the least as a number)", () -> {
            OnlyEntrances x = Hand.played("EDmDnDoP10P10P10P10P10P10");
            Hand.due("of all", x.order(true), 123456);
            Hand.due("none is heard", x.order(false), 0);
            for (int part = 0; part < 5; part++) {
                Hand.stand(x, part, 0, part);
            }
            Hand.due("of the last one", x.order(true), 6);
        });
        Hand.test("ORDER: behind which most LINES are HEARD", () -> {
            OnlyEntrances x = Hand.played("EDmDnP11P11P11L12");
            Hand.due("who has no line comes last, by no door", x.order(true), 231);
            Hand.due("how many", x.order(false), 1);
            x = Hand.played("EDmDnP11P11P11L12L01L10");
            Hand.due("two lines are more than one", x.order(true), 123);
            Hand.due("how many", x.order(false), 2);
        });
        Hand.test("ORDER: LINES of those who are ON count", () -> {
            OnlyEntrances x = Hand.played("EDmDnP10P10P10L01");
            x.enter(0, 0);
            x.enter(1, 1);
            Hand.due("how many", x.order(false), 1);
            Hand.due("who", x.order(true), 3);
            x.say(0);
            Hand.due("how many, when it was said", x.order(false), 0);
        });
        Hand.test("ORDER: each COMES by the least DOOR that is FREE then", () -> {
            OnlyEntrances x = Hand.played("EDnDrDmP11P11P11L01");
            Hand.due("by the doors 0 and 1", x.order(true), 123);
            Hand.due("which are in one row", x.order(false), 1);
            x = Hand.played("EDmDrDoP11P11P11L01");
            Hand.due("the third would stand between 0 and 1", x.order(true), 132);
            Hand.due("not so between 0 and 2", x.order(false), 1);
            x.enter(2, 0);
            Hand.due("the first one is not free", x.order(true), 12);
            Hand.due("1 and 2 are", x.order(false), 1);
        });
        Hand.test("ORDER: no DOOR is FREE: who does not come stands in the order", () -> {
            OnlyEntrances x = Hand.played("EP10P10P10L01");
            Hand.due("no doors", x.order(true), 123);
            Hand.due("no doors, how many", x.order(false), 0);
            x = Hand.played("EDmP11P11L01");
            Hand.due("one door for two butlers", x.order(true), 12);
            Hand.due("how many", x.order(false), 0);
        });
    }

    private static void bars() {
        Hand.test("BARS of a LINE: PARTS (bits) but GHOSTS that stand between its two PARTS", () -> {
            OnlyEntrances x = Hand.played("EDmDrP10P12P11P13P10P10L05L50");
            Hand.stand(x, 1, 0, 13);
            Hand.stand(x, 3, 0, 15);
            Hand.stand(x, 4, 1, 16);
            x.enter(0, 0);
            x.enter(5, 1);
            Hand.due("a maid, a plain one, and a ghost", x.bars(0), 0b011000);
            Hand.due("the other way", x.bars(1), 0b011000);
            Hand.lead(x, 3, 9);
            Hand.due("one of them", x.bars(0), 0b010000);
            Hand.lead(x, 4, 10);
            Hand.due("a ghost alone", x.bars(0), 0);
        });
        Hand.test("BARS: NONE: these are not both ON", () -> {
            OnlyEntrances x = Hand.played("EDmDnP10P10L01L10");
            Hand.due("neither", x.bars(0), Hand.NONE);
            x.enter(0, 0);
            Hand.due("who says it alone", x.bars(0), Hand.NONE);
            Hand.due("to whom alone", x.bars(1), Hand.NONE);
            x.enter(1, 1);
            Hand.due("both", x.bars(0), 0);
        });
        Hand.test("BARS: NONE: not IN LINE", () -> {
            OnlyEntrances x = Hand.played("EDmDoP10P10L01");
            Hand.stand(x, 0, 0, 6);
            x.enter(1, 1);
            Hand.due("a row and two columns apart", x.bars(0), Hand.NONE);
        });
        Hand.test("BARS: NONE: .. or a STOOL is between them", () -> {
            OnlyEntrances x = Hand.played("EDmDqFnFfP10P10P10L01");
            Hand.stand(x, 2, 1, 14);
            x.enter(0, 0);
            x.enter(1, 1);
            Hand.due("a part and a stool", x.bars(0), Hand.NONE);
            x.shift(0, 17);
            Hand.due("a stool beyond", x.bars(0), 0b100);
            x.shift(1, 15);
            Hand.due("a stool nearer to the other", x.bars(0), Hand.NONE);
        });
        Hand.test("BARS of a LINE that was SAID are told too", () -> {
            OnlyEntrances x = Hand.played("EDmDnP10P10L01");
            x.enter(0, 0);
            x.enter(1, 1);
            x.say(0);
            Hand.due("none", x.bars(0), 0);
        });
    }

    private static void leftOut() {
        Hand.test("LEFT OUT: NONE: nobody is ON", () -> {
            OnlyEntrances x = Hand.played("EDmP10");
            Hand.due("which", x.leftOut(0), Hand.NONE);
            Hand.due("how many", x.leftOut(1), Hand.NONE);
            x.enter(0, 0);
            Hand.due("one is on, which", x.leftOut(0), 0);
            Hand.due("one is on, how many", x.leftOut(1), 0);
        });
        Hand.test("LEFT OUT: the PART that is ON, and if it were not, most LINES would be HEARD", () -> {
            OnlyEntrances x = Hand.played("EDmDoP10P10P10P10L03L31L20L20");
            Hand.stand(x, 1, 0, 13);
            x.enter(0, 0);
            x.enter(3, 1);
            Hand.due("who stands in the way is in one line", x.leftOut(1), 1);
            Hand.due("of like ones the least", x.leftOut(0), 0);
            x = Hand.played("EDmDoP10P10P10L02L20L01");
            Hand.stand(x, 1, 0, 13);
            x.enter(0, 0);
            x.enter(2, 1);
            Hand.due("who stands in the way of two", x.leftOut(0), 1);
            Hand.due("how many", x.leftOut(1), 2);
        });
        Hand.test("LEFT OUT: of like ones the least", () -> {
            OnlyEntrances x = Hand.played("EDmDnDoP10P10P10L12");
            x.enter(1, 0);
            x.enter(2, 1);
            Hand.due("of the two who speak", x.leftOut(0), 1);
            Hand.due("how many", x.leftOut(1), 0);
            x.enter(0, 2);
            Hand.due("who has no line", x.leftOut(0), 0);
            Hand.due("how many then", x.leftOut(1), 1);
        });
        Hand.test("LEFT OUT: who is not ON can not be it", () -> {
            OnlyEntrances x = Hand.played("EDmDnP10P10P10L12");
            x.enter(1, 0);
            x.enter(2, 1);
            Hand.due("0 is not on", x.leftOut(0), 1);
        });
    }

    private static void judged() {
        Hand.test("JUDGED: n doings (1 .. 4)", () -> {
            OnlyEntrances x = Hand.played("EDmDnP10P10L01");
            Hand.due("none", x.judge(0, 0), Hand.BAD);
            Hand.due("one", x.judge(1, 100), Hand.NONE);
            Hand.due("four", x.judge(4, 100_111_300_202L), Hand.NONE);
            Hand.due("five", x.judge(5, 0), Hand.BAD);
        });
        Hand.test("JUDGED: the place of the first that can not be; NONE: none", () -> {
            OnlyEntrances x = Hand.played("EDmDnP10P10L01");
            Hand.due("the first", x.judge(4, 300_100_111_300L), 0);
            Hand.due("the second", x.judge(4, 100_300_111_300L), 1);
            Hand.due("the third", x.judge(4, 100_111_301_300L), 2);
            Hand.due("the fourth", x.judge(4, 100_111_300_300L), 3);
            Hand.due("two, the first of them", x.judge(4, 100_100_111_111L), 1);
            Hand.due("none", x.judge(4, 100_111_202_212L), Hand.NONE);
        });
        Hand.test("JUDGED: told as three figures each, naughts ahead", () -> {
            OnlyEntrances x = Hand.played("EDmDnP10P10L01");
            Hand.due("of two, the first is 000", x.judge(2, 100), 0);
            Hand.due("of four, the first is 000", x.judge(4, 100_111_300L), 0);
            Hand.due("no more than one is told", x.judge(1, 0), 0);
        });
        Hand.test("JUDGED: 1, a PART, a DOOR: ENTERED", () -> {
            OnlyEntrances x = Hand.played("EDmDnDoP10P10");
            Hand.due("the last door", x.judge(1, 112), Hand.NONE);
            Hand.due("no such door", x.judge(1, 113), 0);
            Hand.due("no such part", x.judge(1, 120), 0);
            Hand.due("who is on", x.judge(2, 100_101), 1);
            Hand.due("a door that is not free", x.judge(2, 100_110), 1);
            Hand.due("a door that is free again", x.judge(3, 100_202_110), Hand.NONE);
        });
        Hand.test("JUDGED: 2, a PART, a way: WALKED", () -> {
            OnlyEntrances x = Hand.played("EDnP10P11");
            Hand.due("left", x.judge(2, 100_200), Hand.NONE);
            Hand.due("right", x.judge(2, 100_201), Hand.NONE);
            Hand.due("to the front", x.judge(2, 100_202), Hand.NONE);
            Hand.due("back", x.judge(2, 100_203), 1);
            Hand.due("back from the front", x.judge(3, 100_202_203), Hand.NONE);
            Hand.due("no such way", x.judge(2, 100_204), 1);
            Hand.due("who is not on", x.judge(1, 202), 0);
            Hand.due("a butler", x.judge(2, 110_212), 1);
            Hand.due("beyond the row", x.judge(3, 100_200_200), 2);
            Hand.due("no such part", x.judge(2, 100_222), 1);
        });
        Hand.test("JUDGED: 3, 0, a LINE: SAID", () -> {
            OnlyEntrances x = Hand.played("EDmDnP10P10L01L10");
            Hand.due("heard", x.judge(3, 100_111_301), Hand.NONE);
            Hand.due("both", x.judge(4, 100_111_301_300L), Hand.NONE);
            Hand.due("twice", x.judge(4, 100_111_301_301L), 3);
            Hand.due("no such line", x.judge(3, 100_111_302), 2);
            Hand.due("not heard", x.judge(2, 100_300), 1);
            Hand.due("not told with a naught", x.judge(3, 100_111_310), 2);
        });
        Hand.test("JUDGED: of no other kind", () -> {
            OnlyEntrances x = Hand.played("EDmDnP10P10L01");
            for (int kind : new int[] {0, 4, 5, 6, 7, 8, 9}) {
                Hand.due("kind " + kind, x.judge(2, 100_000 + 100 * kind), 1);
            }
        });
    }

    private static void shares() {
        Hand.test("SHARE: who is not ON is not there", () -> {
            OnlyEntrances x = Hand.played("EDmDnP10P10P10L01L02");
            Hand.due("nobody is on", Hand.share(x, 0), Hand.fraction(0, 1));
            x.enter(0, 0);
            Hand.due("who is on alone", Hand.share(x, 0), Hand.fraction(0, 1));
            Hand.due("who is not on", Hand.share(x, 1), Hand.fraction(0, 1));
            x.enter(1, 1);
            Hand.due("of one line the half", Hand.share(x, 0), Hand.fraction(1, 2));
            Hand.due("of one line the other half", Hand.share(x, 1), Hand.fraction(1, 2));
            Hand.due("who is still not on", Hand.share(x, 2), Hand.fraction(0, 1));
            x.say(0);
            Hand.due("when it was said", Hand.share(x, 0), Hand.fraction(0, 1));
        });
        Hand.test("SHARE: above (less than 0, if they are), below, in least terms", () -> {
            OnlyEntrances x = Hand.played("EDmDoP10P10P10L01L10");
            Hand.stand(x, 2, 0, 13);
            x.enter(0, 0);
            x.enter(1, 1);
            Hand.due("who stands in the way, above", x.share(2, true), -2);
            Hand.due("who stands in the way, below", x.share(2, false), 3);
            Hand.due("the one", Hand.share(x, 0), Hand.fraction(1, 3));
            Hand.due("the other", Hand.share(x, 1), Hand.fraction(1, 3));
        });
        Hand.test("SHARE: a whole number is above 1", () -> {
            OnlyEntrances x = Hand.played("EDmDnP10P10L01L10L01L10");
            x.enter(0, 0);
            x.enter(1, 1);
            Hand.due("of four lines", Hand.share(x, 0), Hand.fraction(2, 1));
        });
        Hand.test("SHARE: a GHOST stands in nobody's way", () -> {
            OnlyEntrances x = Hand.played("EDmDoP10P10P12L01");
            Hand.stand(x, 2, 0, 13);
            x.enter(0, 0);
            x.enter(1, 1);
            Hand.due("the ghost", Hand.share(x, 2), Hand.fraction(0, 1));
            Hand.due("the one", Hand.share(x, 0), Hand.fraction(1, 2));
        });
        Hand.test("SHARE: with all six ON", () -> {
            OnlyEntrances x = Hand.played("EDmDrP10P10P10P10P10P10L01");
            for (int part = 2; part < 6; part++) {
                Hand.stand(x, part, 1, part + 11);
            }
            x.enter(0, 0);
            x.enter(1, 1);
            Hand.due("one of four in the way", Hand.share(x, 5), Hand.fraction(-1, 60));
            Hand.due("who is barred by four", Hand.share(x, 0), Hand.fraction(1, 30));
        });
    }

    // ---- doors

    private static void trod() {
        Hand.test("TROD: none at first", () -> {
            OnlyEntrances x = Hand.played("EDmDr");
            Hand.due("trod", x.about(11), 0);
            Hand.due("doors", x.doors(), 0b11);
            Hand.due("untread", x.untread(), 0);
        });
        Hand.test("TROD: 6 such at most", () -> {
            OnlyEntrances x = Hand.played("EDmDr");
            for (int many = 1; many <= 6; many++) {
                Hand.due("tread", x.tread(12, 0), many);
            }
            Hand.due("one more", x.tread(12, 0), Hand.FULL);
            Hand.due("trod", x.about(11), 6);
        });
        Hand.test("TROD: to a CELL c in m steps (0 .. 9)", () -> {
            OnlyEntrances x = Hand.played("EDmFbFhFjFp");
            Hand.due("no steps", x.tread(12, 0), 1);
            Hand.due("its own cell", x.doors(), 1);
            Hand.due("nine steps", x.tread(17, 9), 2);
            Hand.due("so far round the stools", x.doors(), 1);
            Hand.due("ten", x.tread(17, 10), Hand.BAD);
            Hand.due("less than none", x.tread(12, -1), Hand.BAD);
            Hand.due("trod", x.about(11), 2);
        });
        Hand.test("TROD: .. and no shorter", () -> {
            OnlyEntrances x = Hand.played("EDmDr");
            for (int cell = 0; cell < 18; cell++) {
                for (int m = 0; m <= 9; m++) {
                    x = m == 0 ? Hand.played("EDmDr") : x;
                    x.tread(cell, m);
                    int due = (Hand.stepsTo(12, ALL_CELLS)[cell] == m ? 1 : 0) + (Hand.stepsTo(17, ALL_CELLS)[cell] == m ? 2 : 0);
                    Hand.due(m + " steps to " + cell, x.doors(), due);
                    x.untread();
                }
            }
        });
        Hand.test("TROD: STOOLS alone in its way", () -> {
            OnlyEntrances x = Hand.played("EDmDrFfP10P10");
            x.tread(8, 3);
            x.enter(0, 0);
            Hand.stand(x, 1, 1, 7);
            Hand.due("parts are not", x.doors(), 1);
            x.shift(0, 6);
            Hand.due("a stool, and a way by its side", x.doors(), 1);
            x.shift(0, 14);
            Hand.due("a stool, and a way on the other side", x.doors(), 1);
            x.untread();
            x.tread(14, 2);
            Hand.due("nobody comes to a stool", x.doors(), 0);
            x.untread();
            x.tread(15, 3);
            Hand.due("a stool in the straight way", x.doors(), 0);
            x.untread();
            x.tread(15, 5);
            Hand.due("the way round it", x.doors(), 1);
        });
        Hand.test("DOORS by which all that is TROD is so (bits)", () -> {
            OnlyEntrances x = Hand.played("EDmDnDo");
            x.tread(1, 2);
            Hand.due("one", x.doors(), 0b010);
            x.untread();
            x.tread(7, 2);
            Hand.due("two doors at once", x.doors(), 0b101);
            x.tread(6, 1);
            Hand.due("both told", x.doors(), 0b001);
            x.tread(8, 1);
            Hand.due("what is so by none", x.doors(), 0);
        });
        Hand.test("DOORS: there are none", () -> {
            OnlyEntrances x = new OnlyEntrances();
            Hand.due("nothing trod", x.doors(), 0);
            x.tread(0, 0);
            Hand.due("trod", x.doors(), 0);
        });
    }

    // ---- rests and chances

    private static void restsOfTwo() {
        Hand.test("RESTS: no DOORS: no pairs", () -> {
            OnlyEntrances x = Hand.played("EP10P10");
            Hand.due("how many", x.rests(0, 1, 0), 0);
            Hand.due("the first", x.rests(0, 1, 1), Hand.NONE);
        });
        Hand.test("RESTS: one DOOR: the other one does not come", () -> {
            OnlyEntrances x = Hand.played("EDmP11P11");
            Hand.due("how many", x.rests(0, 1, 0), 1);
            Hand.due("the first", x.rests(0, 1, 1), 0);
        });
        Hand.test("RESTS: the first one (10 times the one and the other)", () -> {
            OnlyEntrances x = Hand.played("EDmDoDqP11P11");
            Hand.due("each has 9 by another door than the other", x.rests(0, 1, 0), 6);
            Hand.due("the first", x.rests(0, 1, 1), 1);
            x.undo();
            x = Hand.played("EDmDoP11P11P10");
            Hand.stand(x, 2, 0, 0);
            Hand.due("the one has 9 by 1, the other 1 by 0", x.rests(0, 1, 0), 1);
            Hand.due("the first", x.rests(0, 1, 1), 10);
        });
        Hand.test("RESTS: 1, if it is ON, but not SEEN; 0 if it did not come", () -> {
            OnlyEntrances x = Hand.played("EDmDnP11P11P10");
            Hand.stand(x, 2, 0, 6);
            Hand.due("not seen is more than not come", x.rests(0, 1, 0), 1);
            Hand.due("the first", x.rests(0, 1, 1), 10);
        });
        Hand.test("RESTS: pairs in which neither has more by another DOOR alone; NONE", () -> {
            OnlyEntrances x = Hand.played("EDmDoFnP10P10P10P10");
            Hand.stand(x, 2, 0, 0);
            Hand.stand(x, 3, 1, 1);
            Hand.due("how many", x.rests(0, 1, 0), 0);
            Hand.due("the first", x.rests(0, 1, 1), Hand.NONE);
        });
    }

    /** Parts 2 to 5 stand at these cells, each led from one door. */
    private static OnlyEntrances crowd(String text, int door, int... cells) {
        OnlyEntrances x = Hand.played(text + "P10P10P10P10P10P10");
        for (int i = 0; i < cells.length; i++) {
            Hand.stand(x, 2 + i, door, cells[i]);
        }
        return x;
    }

    private static void restsOfFarWays() {
        Hand.test("RESTS: 9 .. less 1 for each step of its WAY: of four steps it is more than not SEEN", () -> {
            OnlyEntrances x = crowd("EDnDrFaFhFmFo", 1, 1, 3, 4, 5);
            Hand.due("how many", x.rests(0, 1, 0), 2);
            Hand.due("the first", x.rests(0, 1, 1), 10);
        });
        Hand.test("RESTS: 9, if it is SEEN at last: who came first may be hidden by the other", () -> {
            OnlyEntrances x = crowd("EDnDrFaFbFoFp", 1, 2, 3, 4, 5);
            Hand.due("how many", x.rests(0, 1, 0), 0);
            Hand.due("the first", x.rests(0, 1, 1), Hand.NONE);
        });
        Hand.test("RESTS: less 1 for each step: the nearer DOOR is more", () -> {
            OnlyEntrances x = crowd("EDmDnDr", 2, 0, 1);
            Hand.due("12 is two steps off, 13 one, 17 none", x.rests(0, 1, 1), 21);
            Hand.due("how many", x.rests(0, 1, 0), 1);
        });
    }

    private static void givesWay() {
        Hand.test("GIVES WAY: each COLUMN whose LOAD is 10 or more", () -> {
            OnlyEntrances x = Hand.played("EDmP90P10");
            Hand.stand(x, 0, 0, 0);
            Hand.due("9", Hand.gives(x, 1, 10), Hand.fraction(0, 1));
            x.enter(1, 0);
            Hand.due("10", Hand.gives(x, 1, 10), Hand.fraction(1, 1));
            x = Hand.played("EDmP83P91");
            x.enter(0, 0);
            Hand.due("a maid of 8", Hand.gives(x, 1, 10), Hand.fraction(1, 1));
            x = Hand.played("EDmP73P91");
            x.enter(0, 0);
            Hand.due("a maid of 7", Hand.gives(x, 1, 10), Hand.fraction(0, 1));
        });
        Hand.test("GIVES WAY: by x tenths (0 .. 10)", () -> {
            OnlyEntrances x = Hand.played("EDmP93");
            x.enter(0, 0);
            Hand.due("-1", x.gives(1, -1, true), Hand.BAD);
            Hand.due("0", Hand.gives(x, 1, 0), Hand.fraction(0, 1));
            Hand.due("1", Hand.gives(x, 1, 1), Hand.fraction(1, 10));
            Hand.due("4", Hand.gives(x, 1, 4), Hand.fraction(2, 5));
            Hand.due("9", Hand.gives(x, 1, 9), Hand.fraction(9, 10));
            Hand.due("10", Hand.gives(x, 1, 10), Hand.fraction(1, 1));
            Hand.due("11", x.gives(1, 11, true), Hand.BAD);
        });
        Hand.test("GIVES WAY: that m (0 .. 6) or more do", () -> {
            OnlyEntrances x = Hand.played("EDmDoDqP83P83P83P83P83P83");
            for (int part = 0; part < 6; part++) {
                Hand.due("none of " + part, Hand.gives(x, 0, 5), Hand.fraction(1, 1));
                Hand.due("more than " + part, Hand.gives(x, part + 1, 10), Hand.fraction(0, 1));
                Hand.stand(x, part, 2 - part / 2, 5 - part);
            }
            Hand.due("none or more", Hand.gives(x, 0, 1), Hand.fraction(1, 1));
            Hand.due("all by one tenth, above", x.gives(6, 1, true), 1);
            Hand.due("all by one tenth, below", x.gives(6, 1, false), 1000000);
            Hand.due("one or more, above", x.gives(1, 1, true), 468559);
            Hand.due("one or more, below", x.gives(1, 1, false), 1000000);
            Hand.due("five or more", Hand.gives(x, 5, 5), Hand.fraction(7, 64));
            Hand.due("three or more", Hand.gives(x, 3, 5), Hand.fraction(21, 32));
            Hand.due("all by all", Hand.gives(x, 6, 10), Hand.fraction(1, 1));
            Hand.due("m 7", x.gives(7, 5, true), Hand.BAD);
            Hand.due("m -1", x.gives(-1, 5, true), Hand.BAD);
        });
        Hand.test("GIVES WAY: no COLUMN can", () -> {
            Hand.due("none or more", Hand.gives(new OnlyEntrances(), 0, 10), Hand.fraction(1, 1));
            Hand.due("none or more by nothing", Hand.gives(new OnlyEntrances(), 0, 0), Hand.fraction(1, 1));
            Hand.due("all", Hand.gives(new OnlyEntrances(), 6, 10), Hand.fraction(0, 1));
        });
    }

    /** The seed from which the next number of the row is this one. */
    private static long before(long next) {
        BigInteger all = BigInteger.ONE.shiftLeft(64);
        BigInteger inverse = new BigInteger("6364136223846793005").modInverse(all);
        return BigInteger.valueOf(next).subtract(new BigInteger("1442695040888963407")).multiply(inverse).longValue();
    }

    /** What is left of the upper 31 bits of the number behind this one, by 42. */
    private static int lotBehind(long seed) {
        BigInteger next = BigInteger.valueOf(seed).multiply(new BigInteger("6364136223846793005"))
            .add(new BigInteger("1442695040888963407")).mod(BigInteger.ONE.shiftLeft(64));
        return next.shiftRight(33).mod(BigInteger.valueOf(42)).intValue();
    }

    /** A seed behind which come first the one lot, then the other. */
    private static long seedOf(int lot, int then) {
        for (long upper = lot; upper < 1L << 31; upper += 42) {
            long next = upper << 33 | (upper * 2654435761L & (1L << 33) - 1);
            if (lotBehind(next) == then) {
                return before(next);
            }
        }
        Hand.fail("no seed for the lots " + lot + " and " + then);
        return 0;
    }

    private static void evenings() {
        Hand.test("EVENINGS: THE SEED, a long; 0 at first", () -> {
            OnlyEntrances x = new OnlyEntrances();
            Hand.due("at first", x.seed(Long.MAX_VALUE), 0);
            Hand.due("the greatest", x.seed(Long.MIN_VALUE), Long.MAX_VALUE);
            Hand.due("the least", x.seed(-1), Long.MIN_VALUE);
            Hand.due("less than 0", x.seed(0), -1);
        });
        Hand.test("EVENINGS: x becomes x times 6364136223846793005 and 1442695040888963407 (64 bits, wrapping)", () -> {
            OnlyEntrances x = new OnlyEntrances();
            x.evenings(1);
            Hand.due("from 0", x.seed(1), 1442695040888963407L);
            x.evenings(1);
            Hand.due("from 1", x.seed(-1), 7806831264735756412L);
            x.evenings(1);
            Hand.due("from -1", x.seed(Long.MAX_VALUE), -4921441182957829598L);
            x.evenings(1);
            Hand.due("from the greatest", x.seed(Long.MIN_VALUE), wrapped(Long.MAX_VALUE));
            x.evenings(1);
            Hand.due("from the least", x.seed(0), wrapped(Long.MIN_VALUE));
        });
        Hand.test("EVENINGS: m times (1 .. 30)", () -> {
            for (int m = 1; m <= 30; m++) {
                OnlyEntrances x = Hand.played("EDmP11");
                x.enter(0, 0);
                Hand.due("m " + m, x.evenings(m), m);
                long due = 0;
                for (int time = 0; time < m; time++) {
                    due = wrapped(due);
                }
                Hand.due("the seed behind " + m, x.seed(0), due);
            }
            OnlyEntrances x = Hand.played("EDmP11");
            Hand.due("none", x.evenings(0), Hand.BAD);
            Hand.due("one more", x.evenings(31), Hand.BAD);
            Hand.due("the seed is as it was", x.seed(0), 0);
        });
        Hand.test("EVENINGS: its upper 31 bits are never less than 0", () -> {
            for (long upper : new long[] {0, 1, (1L << 30) - 1, 1L << 30, (1L << 30) + 1, (1L << 31) - 2, (1L << 31) - 1}) {
                int lot = (int) (upper % 42);
                for (long lower : new long[] {0, 1, (1L << 33) - 1}) {
                    OnlyEntrances x = evening(0);
                    x.seed(before(upper << 33 | lower));
                    Hand.due("upper bits " + upper + " and " + lower, x.evenings(1), acted(0, lot));
                }
            }
        });
        Hand.test("EVENINGS: (Nothing changes but THE SEED.)", () -> {
            OnlyEntrances x = evening(1), y = evening(1);
            y.seed(5);
            x.seed(4);
            x.evenings(30);
            x.seed(5);
            Hand.same("an evening changes", Hand.wholePicture(x), Hand.wholePicture(y));
        });
        Hand.test("EVENINGS: nobody is told", () -> Hand.due("seen", new OnlyEntrances().evenings(30), 0));
    }

    private static long wrapped(long x) {
        return BigInteger.valueOf(x).multiply(new BigInteger("6364136223846793005"))
            .add(new BigInteger("1442695040888963407")).longValue();
    }

    /**
     * Stages on which each lot can be told by who is seen then: on 1 and 2 many are on; behind these on each even
     * one a part stands beside another, on each odd one it has room.
     */
    private static OnlyEntrances evening(int number) {
        OnlyEntrances x = Hand.played("EDmDoDqFjP10P10P10P10P10P10");
        if (number == 1 || number == 2) {
            Hand.stand(x, 0, 0, 7);
            Hand.stand(x, 2, 1, 2);
            Hand.stand(x, 4, 2, 10);
        }
        if (number == 1) {
            Hand.stand(x, 1, 0, 12);
            Hand.stand(x, 3, 1, 14);
            Hand.stand(x, 5, 2, 16);
        }
        if (number > 2) {
            int part = (number - 3) / 2;
            Hand.stand(x, (part + 1) % 6, 1, number % 2 == 0 ? 8 : 17);
            Hand.stand(x, part, 0, 7);
        }
        return x;
    }

    /** The same as acts on another such stage: how many are seen each time, together. */
    private static int acted(int number, int... lots) {
        OnlyEntrances y = evening(number);
        int seen = 0;
        for (int lot : lots) {
            if (lot >= 0 && lot < 24) {
                y.walk(lot / 4, lot % 4);
            } else if (lot >= 24) {
                y.enter((lot - 24) / 3, (lot - 24) % 3);
            }
            seen += Integer.bitCount(y.about(5));
        }
        return seen;
    }

    private static void eveningsLots() {
        for (int lot = 0; lot < 42; lot++) {
            String words = lot < 24 ? "0 .. 23: that by 4 (down) is a PART that WALKS the way that is left by 4"
                : "24 .. 41: that less 24 by 3 (down) is a PART that ENTERS by the DOOR that is left by 3";
            int first = lot;
            Hand.test("EVENINGS, " + lot + " of " + words + ", if it can be", () -> {
                int shown = 0;
                for (int number = 0; number < 15; number++) {
                    OnlyEntrances x = evening(number);
                    for (int then = 0; then < 42; then++) {
                        int due = acted(number, first, then);
                        shown += due != acted(number, -1, then) ? 1 : 0;
                        x.seed(seedOf(first, then));
                        Hand.due("on stage " + number + ", then " + then, x.evenings(2), due);
                    }
                }
                if (shown == 0) {
                    Hand.fail("no stage shows this lot");
                }
            });
        }
    }

    // ---- slots and refusals

    private static void slots() {
        Hand.test("SLOTS 0 .. 1", () -> {
            OnlyEntrances x = Hand.played("EDmDnP10P10");
            Hand.due("keep(-1)", x.keep(-1), Hand.UNKNOWN);
            Hand.due("keep(2)", x.keep(2), Hand.UNKNOWN);
            Hand.due("again(-1)", x.again(-1), Hand.UNKNOWN);
            Hand.due("again(2)", x.again(2), Hand.UNKNOWN);
            Hand.due("keep(0)", x.keep(0), 0);
            x.enter(0, 0);
            Hand.due("1 was not kept", x.again(1), Hand.LATE);
            Hand.due("keep(1)", x.keep(1), 1);
            Hand.due("again(0)", x.again(0), 0);
            Hand.due("who is on", x.about(4), 0);
            Hand.due("again(1)", x.again(1), 1);
            Hand.due("who is on", x.about(4), 1);
        });
        Hand.test("SLOTS keep where all are", () -> {
            OnlyEntrances x = Hand.played("EDmDrP10P10P10P10P10P10");
            Hand.stand(x, 0, 0, 0);
            Hand.stand(x, 5, 1, 5);
            x.keep(0);
            Hand.lead(x, 0, 1);
            Hand.lead(x, 5, 4);
            Hand.stand(x, 3, 0, 8);
            x.again(0);
            Hand.due("the first", x.part(0, 2), 0);
            Hand.due("the last", x.part(5, 2), 5);
            Hand.due("who came later", x.part(3, 2), Hand.NONE);
        });
        Hand.test("SLOTS keep what was SAID", () -> {
            OnlyEntrances x = Hand.played("EDmDnP10P10L01L10L01L10L01L10");
            x.enter(0, 0);
            x.enter(1, 1);
            x.say(5);
            x.keep(1);
            x.say(0);
            x.again(1);
            Hand.due("said", x.about(6), 0b100000);
            Hand.due("heard", x.about(7), 0b011111);
        });
        Hand.test("SLOTS keep where STOOLS are", () -> {
            OnlyEntrances x = Hand.played("EFaFbFcFd");
            x.shift(0, 6);
            x.shift(3, 17);
            x.keep(0);
            x.shift(0, 7);
            x.shift(3, 8);
            x.again(0);
            Hand.due("the first", x.stool(0), 6);
            Hand.due("the last", x.stool(3), 17);
            Hand.due("the minute", x.about(9), 2);
        });
        Hand.test("SLOTS keep THE MINUTE (no ACTS when one goes on)", () -> {
            OnlyEntrances x = Hand.played("EDmP10");
            x.enter(0, 0);
            Hand.due("keep", x.keep(0), 1);
            Hand.due("the acts stay when it is kept", x.about(10), 1);
            Hand.lead(x, 0, 0);
            Hand.due("again", x.again(0), 1);
            Hand.due("acts", x.about(10), 0);
            Hand.due("undo", x.undo(), Hand.LATE);
            x.walk(0, Hand.FRONT);
            Hand.due("the next act", x.about(9), 2);
            Hand.due("acts", x.about(10), 1);
            Hand.due("undo of the next", x.undo(), 0);
            Hand.due("no more", x.undo(), Hand.LATE);
        });
        Hand.test("SLOTS: what is kept stays when one has gone on from it, until it is kept anew", () -> {
            OnlyEntrances x = Hand.played("EDmP10");
            x.keep(0);
            x.enter(0, 0);
            x.again(0);
            x.enter(0, 0);
            Hand.due("once more", x.again(0), 0);
            x.enter(0, 0);
            Hand.due("anew", x.keep(0), 1);
            x.walk(0, Hand.FRONT);
            Hand.due("what is kept now", x.again(0), 1);
            Hand.due("where", x.part(0, 2), 12);
        });
    }

    private static void refusals() {
        Hand.test("UNKNOWN -1, BAD -2, LATE -3, FULL -4. NONE is -9", () -> {
            Hand.due("UNKNOWN", OnlyEntrances.UNKNOWN, -1);
            Hand.due("BAD", OnlyEntrances.BAD, -2);
            Hand.due("LATE", OnlyEntrances.LATE, -3);
            Hand.due("FULL", OnlyEntrances.FULL, -4);
            Hand.due("NONE", OnlyEntrances.NONE, -9);
        });
        Hand.test("UNKNOWN: there is no such CELL (0 .. 17)", () -> {
            OnlyEntrances x = Hand.played("EDmFaP10");
            x.enter(0, 0);
            Hand.due("shift to 17", x.shift(0, 17), 0);
            Hand.due("shift to 18", x.shift(0, 18), Hand.UNKNOWN);
            Hand.due("shift to -1", x.shift(0, -1), Hand.UNKNOWN);
            Hand.due("way to 0", x.way(0, 0), 2);
            Hand.due("way to 18", x.way(0, 18), Hand.UNKNOWN);
            Hand.due("way to -1", x.way(0, -1), Hand.UNKNOWN);
            Hand.due("tread 17", x.tread(17, 0), 1);
            Hand.due("tread 18", x.tread(18, 0), Hand.UNKNOWN);
            Hand.due("tread -1", x.tread(-1, 0), Hand.UNKNOWN);
        });
        Hand.test("Of several what is told first: BAD before FULL", () -> {
            OnlyEntrances x = Hand.told("x".repeat(60));
            Hand.due("write", x.write(256), Hand.BAD);
            Hand.due("write", x.write(-1), Hand.BAD);
            Hand.due("write", x.write(65), Hand.FULL);
        });
        Hand.test("Of several what is told first: UNKNOWN before BAD", () -> {
            OnlyEntrances x = Hand.played("EDmP10P10L01");
            Hand.due("part", x.part(2, 5), Hand.UNKNOWN);
            Hand.due("line", x.line(1, 4), Hand.UNKNOWN);
            Hand.due("walk", x.walk(2, 4), Hand.UNKNOWN);
            Hand.due("place", x.place(2, 2), Hand.UNKNOWN);
            Hand.due("tread", x.tread(18, 10), Hand.UNKNOWN);
            Hand.due("rests, both are one, and none", x.rests(2, 2, 0), Hand.UNKNOWN);
            Hand.due("rests, the other, and what", x.rests(0, 2, 2), Hand.UNKNOWN);
        });
        Hand.test("Of several what is told first: UNKNOWN before LATE", () -> {
            OnlyEntrances x = Hand.played("EDmFaP10P10L01");
            x.enter(0, 0);
            Hand.due("enter, who is on, by no door", x.enter(0, 1), Hand.UNKNOWN);
            Hand.due("enter, nobody, by a door that is not free", x.enter(2, 0), Hand.UNKNOWN);
            Hand.due("shift, no stool, to what is not free", x.shift(1, 0), Hand.UNKNOWN);
            Hand.due("way, who is not on, to no cell", x.way(1, 18), Hand.UNKNOWN);
            Hand.due("comes, who is on, by no door", x.comes(0, 1), Hand.UNKNOWN);
            Hand.due("rests, who is on, with nobody", x.rests(0, 2, 0), Hand.UNKNOWN);
        });
        Hand.test("Of several what is told first: BAD before LATE", () -> {
            OnlyEntrances x = Hand.played("EDmP10P10L01");
            Hand.due("walk, who is not on", x.walk(0, 4), Hand.BAD);
            Hand.due("place, who is not on", x.place(0, 2), Hand.BAD);
            x.enter(0, 0);
            Hand.due("rests, who is on, with itself", x.rests(0, 0, 0), Hand.BAD);
            Hand.due("rests, who is on, what", x.rests(0, 1, 2), Hand.BAD);
        });
        Hand.test("Of several what is told first: UNKNOWN and BAD before FULL", () -> {
            OnlyEntrances x = new OnlyEntrances();
            for (int many = 0; many < 6; many++) {
                x.tread(0, 0);
            }
            Hand.due("tread, no cell", x.tread(18, 0), Hand.UNKNOWN);
            Hand.due("tread, no such m", x.tread(0, 10), Hand.BAD);
            Hand.due("tread", x.tread(0, 0), Hand.FULL);
        });
        Hand.test("FRACTIONS are told .. in least terms", () -> {
            OnlyEntrances x = Hand.played("EDmP93");
            x.enter(0, 0);
            int[][] due = {{0, 1}, {1, 10}, {1, 5}, {3, 10}, {2, 5}, {1, 2}, {3, 5}, {7, 10}, {4, 5}, {9, 10}, {1, 1}};
            for (int tenths = 0; tenths <= 10; tenths++) {
                Hand.due(tenths + " tenths", Hand.gives(x, 1, tenths), Hand.fraction(due[tenths][0], due[tenths][1]));
            }
        });
    }
}
