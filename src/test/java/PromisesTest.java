import java.math.BigInteger;

/** Each promise of the document by hand: ordinary calls, the edges that it names, and wrong arguments. */
public final class PromisesTest {
    private static final int UNKNOWN = -1, BAD = -2, LATE = -3, FULL = -4, NONE = -9;
    private static final int LEFT = 0, RIGHT = 1, FRONT = 2, BACK = 3;
    private static final int[] WILD = {Integer.MIN_VALUE, -10, -9, -1, 64, 1000, Integer.MAX_VALUE};
    private static int wrong = 0;

    public static void main(String[] args) {
        aNewObject();
        write();
        wipe();
        faultOfLetters();
        faultOfLimits();
        faultOfLines();
        play();
        playMakesAnew();
        playForgetsKinds();
        about();
        door();
        stool();
        partItself();
        partSight();
        partWays();
        line();
        load();
        enter();
        walk();
        say();
        shift();
        undo();
        undoOfWhatIsLeft();
        way();
        place();
        comes();
        order();
        bars();
        leftOut();
        judge();
        share();
        tread();
        doors();
        rests();
        gives();
        seedAndEvenings();
        slots();
        wildArguments();
        System.out.println(wrong == 0 ? "all promises are kept" : wrong + " answers are not as promised");
        if (wrong != 0) {
            System.exit(1);
        }
    }

    private static void due(int promise, String what, long got, long want) {
        if (got != want) {
            wrong++;
            System.out.println("promise " + promise + ": " + what + " answered " + got + ", due is " + want);
        }
    }

    private static void tell(OnlyEntrances x, String text) {
        x.wipe();
        for (int i = 0; i < text.length(); i++) {
            x.write(text.charAt(i));
        }
    }

    private static OnlyEntrances played(String text) {
        OnlyEntrances x = new OnlyEntrances();
        tell(x, text);
        due(5, "the play " + text + " is refused", x.play() < 0 ? 1 : 0, 0);
        return x;
    }

    private static int faultOf(String text) {
        OnlyEntrances x = new OnlyEntrances();
        tell(x, text);
        return x.fault();
    }

    private static void walkAll(OnlyEntrances x, int part, int... ways) {
        for (int way : ways) {
            due(13, "a part " + part + " that is led " + way + " is refused", x.walk(part, way) < 0 ? 1 : 0, 0);
        }
    }

    private static void bring(OnlyEntrances x, int part, int door, int... ways) {
        due(12, "a part " + part + " that is brought by " + door + " is refused", x.enter(part, door) < 0 ? 1 : 0, 0);
        walkAll(x, part, ways);
    }

    /** All that can be seen of an object without changing it. */
    private static String sum(OnlyEntrances x) {
        StringBuilder all = new StringBuilder();
        for (int what = 0; what < 13; what++) {
            all.append(x.about(what)).append(' ');
        }
        for (int i = 0; i < 6; i++) {
            all.append(x.door(i)).append(x.stool(i)).append(x.part(i, 2)).append(x.line(i, 2)).append(' ');
        }
        return all.append(x.doors()).append(x.fault()).toString();
    }

    private static void aNewObject() {
        OnlyEntrances x = new OnlyEntrances();
        for (int what = 0; what < 13; what++) {
            due(1, "about(" + what + ")", x.about(what), what == 8 ? (1 << 18) - 1 : 0);
        }
        due(1, "fault", x.fault(), 0);
        due(1, "play", x.play(), LATE);
        due(1, "undo", x.undo(), LATE);
        due(1, "again(0)", x.again(0), LATE);
        due(1, "seed", x.seed(3), 0);
        due(1, "order", x.order(true), 0);
        due(1, "leftOut", x.leftOut(0), NONE);
        due(1, "load", x.load(5), 0);
    }

    private static void write() {
        OnlyEntrances x = new OnlyEntrances();
        due(2, "write(0)", x.write(0), 1);
        due(2, "write(255)", x.write(255), 2);
        due(2, "write(256)", x.write(256), BAD);
        due(2, "write(-1)", x.write(-1), BAD);
        for (int i = 3; i <= 60; i++) {
            due(2, "write " + i, x.write('E'), i);
        }
        due(2, "write 61", x.write('E'), FULL);
        due(2, "a bad byte on a full text", x.write(256), BAD);
        due(2, "length", x.about(12), 60);
    }

    private static void wipe() {
        OnlyEntrances x = played("EDmP10");
        due(3, "wipe", x.wipe(), 6);
        due(3, "wipe again", x.wipe(), 0);
        due(3, "fault of the empty text", x.fault(), 0);
        due(3, "the play stays", x.about(2), 1);
    }

    private static void faultOfLetters() {
        due(4, "E", faultOf("E"), NONE);
        due(4, "e", faultOf("e"), 0);
        due(4, "D", faultOf("Dm"), 0);
        due(4, "EE", faultOf("EE"), 1);
        due(4, "byte 0", faultOf("E\u0000"), 1);
        due(4, "ED", faultOf("ED"), 2);
        due(4, "EDm", faultOf("EDm"), NONE);
        due(4, "EDr", faultOf("EDr"), NONE);
        due(4, "EDl", faultOf("EDl"), 2);
        due(4, "EDs", faultOf("EDs"), 2);
        due(4, "EDmDm", faultOf("EDmDm"), 4);
        due(4, "EF", faultOf("EF"), 2);
        due(4, "EFa", faultOf("EFa"), NONE);
        due(4, "EFr", faultOf("EFr"), NONE);
        due(4, "EFs", faultOf("EFs"), 2);
        due(4, "EF`", faultOf("EF`"), 2);
        due(4, "EFA", faultOf("EFA"), 2);
        due(4, "EFmDm", faultOf("EFmDm"), 4);
        due(4, "EDmFm", faultOf("EDmFm"), 4);
        due(4, "EP", faultOf("EP"), 2);
        due(4, "EP0", faultOf("EP0"), 2);
        due(4, "EP:", faultOf("EP:"), 2);
        due(4, "EP1", faultOf("EP1"), 3);
        due(4, "EP94", faultOf("EP94"), 3);
        due(4, "EP1/", faultOf("EP1/"), 3);
        due(4, "EP93", faultOf("EP93"), NONE);
        due(4, "the first of two", faultOf("EP14DaDa"), 3);
    }

    private static void faultOfLimits() {
        due(4, "three doors", faultOf("EDmDnDo"), NONE);
        due(4, "four doors", faultOf("EDmDnDoDp"), 7);
        due(4, "four doors, begun", faultOf("EDmDnDoD"), 7);
        due(4, "four stools", faultOf("EFaFbFcFd"), NONE);
        due(4, "five stools", faultOf("EFaFbFcFdFe"), 9);
        due(4, "a back row that is full", faultOf("EFmFnFoFpDqDrD"), 13);
        due(4, "a back row with one cell left", faultOf("EFmFnFoFaDqDrD"), 14);
        due(4, "six parts", faultOf("EP10P10P10P10P10P10"), NONE);
        due(4, "seven parts", faultOf("EP10P10P10P10P10P10P10"), 19);
        due(4, "six lines", faultOf("EP10P10L01L01L01L01L10L10"), NONE);
        due(4, "seven lines", faultOf("EP10P10L01L01L01L01L10L10L01"), 25);
    }

    private static void faultOfLines() {
        due(4, "a line of nobody", faultOf("EL"), 1);
        due(4, "a line of one alone", faultOf("EP10L"), 4);
        due(4, "a line that stops", faultOf("EP10P10L"), 8);
        due(4, "a line to nobody yet", faultOf("EP10P10L0"), 9);
        due(4, "a line to oneself", faultOf("EP10P10L11"), 9);
        due(4, "a line of who comes later", faultOf("EP10P10L20P10"), 8);
        due(4, "a line to who comes later", faultOf("EP10P10L02P10"), 9);
        due(4, "a line of a letter", faultOf("EP10P10La1"), 8);
        due(4, "lines among parts", faultOf("EP10P10L01P10L21Dm"), NONE);
    }

    private static void play() {
        OnlyEntrances x = new OnlyEntrances();
        due(5, "play of nothing", x.play(), LATE);
        tell(x, "E");
        due(5, "play of E", x.play(), 0);
        tell(x, "EDmDnFaP10P20P30L01L12L20L02");
        due(5, "play", x.play(), 2134);
        due(5, "the text stays", x.about(12), 28);
        due(5, "no fault", x.fault(), NONE);
        x.write('D');
        due(5, "play with a fault", x.play(), LATE);
        due(5, "what was played stays", x.about(3), 4);
        tell(x, "EDmDnFaP10P20P30L01");
        due(5, "the play is not yet the text", x.about(3), 4);
        due(5, "play", x.play(), 2131);
        due(5, "the play is the text", x.about(3), 1);
    }

    private static void playMakesAnew() {
        OnlyEntrances x = played("EDmFaP10P10L01");
        bring(x, 0, 0, RIGHT);
        bring(x, 1, 0);
        x.say(0);
        x.shift(0, 3);
        x.keep(1);
        x.tread(3, 4);
        x.seed(77);
        x.play();
        due(5, "nobody is on", x.about(4), 0);
        due(5, "nothing was said", x.about(6), 0);
        due(5, "stools are as told", x.stool(0), 0);
        due(5, "the minute", x.about(9), 0);
        due(5, "no acts", x.about(10), 0);
        due(5, "what was kept is gone", x.again(1), LATE);
        due(5, "what is trod stays", x.about(11), 1);
        due(5, "the seed stays", x.seed(0), 77);
    }

    private static void playForgetsKinds() {
        OnlyEntrances x = played("EDmP12P10");
        tell(x, "EDmP10P10");
        x.play();
        bring(x, 0, 0, FRONT);
        bring(x, 1, 0);
        due(5, "who was a ghost in another play hides others", x.about(5), 0b01);
    }

    private static void about() {
        OnlyEntrances x = played("EDmDnDoFhP10P22P33P91L01L10L23");
        bring(x, 0, 0, FRONT, FRONT);
        bring(x, 1, 0, FRONT);
        bring(x, 2, 0);
        due(6, "doors", x.about(0), 3);
        due(6, "stools", x.about(1), 1);
        due(6, "parts", x.about(2), 4);
        due(6, "lines", x.about(3), 3);
        due(6, "on", x.about(4), 0b111);
        due(6, "seen", x.about(5), 0b001);
        due(6, "heard", x.about(7), 0b011);
        x.say(1);
        due(6, "said", x.about(6), 0b010);
        due(6, "heard but for what was said", x.about(7), 0b001);
        due(6, "free", x.about(8), 0x3FFFF & ~(1 | 1 << 6 | 1 << 12 | 1 << 7));
        due(6, "minute", x.about(9), 7);
        due(6, "acts", x.about(10), 7);
        x.tread(0, 0);
        due(6, "trod", x.about(11), 1);
        due(6, "bytes", x.about(12), 30);
        due(6, "about(13)", x.about(13), BAD);
        due(6, "about(-1)", x.about(-1), BAD);
        x = played("EDmP12P10");
        bring(x, 0, 0, FRONT, FRONT);
        bring(x, 1, 0);
        due(6, "who is behind a ghost is seen", x.about(5), 0b11);
        x = played("EDmFaP10");
        bring(x, 0, 0);
        due(6, "who is behind a stool is seen", x.about(5), 1);
    }

    private static void door() {
        OnlyEntrances x = played("EDrDm");
        due(7, "door(0)", x.door(0), 17);
        due(7, "door(1)", x.door(1), 12);
        due(7, "door(2)", x.door(2), UNKNOWN);
        due(7, "door(-1)", x.door(-1), UNKNOWN);
    }

    private static void stool() {
        OnlyEntrances x = played("EFrFa");
        due(8, "stool(0)", x.stool(0), 17);
        due(8, "stool(1)", x.stool(1), 0);
        x.shift(1, 4);
        due(8, "a stool that was shifted", x.stool(1), 4);
        due(8, "stool(2)", x.stool(2), UNKNOWN);
        due(8, "stool(-1)", x.stool(-1), UNKNOWN);
    }

    private static void partItself() {
        OnlyEntrances x = played("EDmP73P11");
        due(9, "weight", x.part(0, 0), 7);
        due(9, "kind", x.part(0, 1), 3);
        due(9, "cell", x.part(0, 2), NONE);
        due(9, "sight", x.part(0, 3), 0);
        due(9, "ways", x.part(0, 4), 0);
        bring(x, 0, 0, FRONT);
        due(9, "cell", x.part(0, 2), 6);
        due(9, "part(0, 5)", x.part(0, 5), BAD);
        due(9, "part(0, -1)", x.part(0, -1), BAD);
        due(9, "part(2, 0)", x.part(2, 0), UNKNOWN);
        due(9, "part(2, 5)", x.part(2, 5), UNKNOWN);
    }

    private static void partSight() {
        OnlyEntrances x = played("EDmFcP10P10P10P12P10");
        bring(x, 0, 0, RIGHT, RIGHT);
        bring(x, 1, 0, FRONT, RIGHT);
        due(9, "aslant, next", x.part(0, 3), 0b10);
        walkAll(x, 1, FRONT, LEFT);
        due(9, "aslant, two apart", x.part(0, 3), 0b10);
        bring(x, 2, 0, FRONT, RIGHT);
        due(9, "a part between", x.part(0, 3), 0b100);
        due(9, "who is between sees both", x.part(2, 3), 0b11);
        walkAll(x, 2, RIGHT);
        bring(x, 3, 0, FRONT, RIGHT);
        due(9, "a ghost between", x.part(0, 3) & 0b11, 0b10);
        walkAll(x, 1, RIGHT);
        due(9, "not in line", x.part(0, 3) & 0b10, 0);
        bring(x, 4, 0);
        due(9, "in one row", x.part(4, 3) & 1, 1);
        x = played("EDmDqFoP10P10");
        bring(x, 0, 0);
        bring(x, 1, 1);
        due(9, "a stool between", x.part(0, 3), 0);
        x.shift(0, 0);
        due(9, "the stool is away", x.part(0, 3), 2);
    }

    private static void partWays() {
        OnlyEntrances x = played("EDmFhFnP10P11P10");
        bring(x, 0, 0);
        due(9, "ways round stools", x.part(0, 4), 16);
        walkAll(x, 0, FRONT);
        bring(x, 1, 0);
        due(9, "a butler's", x.part(1, 4), 1);
        due(9, "ways round stools and a butler", x.part(0, 4), 15);
    }

    private static void line() {
        OnlyEntrances x = played("EDmDnP10P10P10L20L01");
        due(10, "who says", x.line(0, 0), 2);
        due(10, "to whom", x.line(0, 1), 0);
        due(10, "not said", x.line(1, 2), 0);
        due(10, "not heard", x.line(1, 3), 0);
        bring(x, 0, 0);
        due(10, "one is not on", x.line(1, 3), 0);
        bring(x, 1, 1);
        due(10, "heard", x.line(1, 3), 1);
        x.say(1);
        due(10, "said", x.line(1, 2), 1);
        due(10, "no more to be heard", x.line(1, 3), 0);
        due(10, "line(0, 4)", x.line(0, 4), BAD);
        due(10, "line(0, -1)", x.line(0, -1), BAD);
        due(10, "line(2, 0)", x.line(2, 0), UNKNOWN);
        due(10, "line(-1, 9)", x.line(-1, 9), UNKNOWN);
    }

    private static void load() {
        OnlyEntrances x = played("EDrP90P83P72P11");
        bring(x, 0, 0, FRONT, FRONT);
        due(11, "one", x.load(5), 9);
        bring(x, 1, 0, FRONT);
        due(11, "a maid", x.load(5), 19);
        bring(x, 2, 0);
        due(11, "a ghost", x.load(5), 26);
        due(11, "another column", x.load(4), 0);
        walkAll(x, 1, LEFT);
        due(11, "a maid alone", x.load(4), 10);
        due(11, "column 0", x.load(0), 0);
        x = played("EDmP43");
        bring(x, 0, 0, FRONT);
        due(11, "column 0, in the middle row", x.load(0), 6);
        due(11, "load(6)", x.load(6), BAD);
        due(11, "load(-1)", x.load(-1), BAD);
    }

    private static void enter() {
        OnlyEntrances x = played("EDmDrP10P10");
        due(12, "enter(2, 0)", x.enter(2, 0), UNKNOWN);
        due(12, "enter(0, 2)", x.enter(0, 2), UNKNOWN);
        due(12, "enter(-1, 0)", x.enter(-1, 0), UNKNOWN);
        due(12, "enter(0, 1)", x.enter(0, 1), 17);
        due(12, "one who is on", x.enter(0, 0), LATE);
        due(12, "one who is on, by no door", x.enter(0, 2), UNKNOWN);
        due(12, "a door that is not free", x.enter(1, 1), LATE);
        due(12, "the minute", x.about(9), 1);
        due(12, "enter(1, 0)", x.enter(1, 0), 12);
        due(12, "the minute", x.about(9), 2);
        due(12, "the acts", x.about(10), 2);
    }

    private static void walk() {
        OnlyEntrances x = played("EDmFhP10P11P10");
        due(13, "who is not on", x.walk(0, FRONT), LATE);
        due(13, "who is not on, a bad way", x.walk(0, 4), BAD);
        due(13, "walk(3, 0)", x.walk(3, 0), UNKNOWN);
        due(13, "walk(3, 4)", x.walk(3, 4), UNKNOWN);
        bring(x, 0, 0);
        due(13, "beyond the row", x.walk(0, LEFT), LATE);
        due(13, "beyond the stage", x.walk(0, BACK), LATE);
        due(13, "to the front", x.walk(0, FRONT), 6);
        due(13, "beyond the row, where there is a cell", x.walk(0, LEFT), LATE);
        due(13, "into a stool", x.walk(0, RIGHT), LATE);
        due(13, "to the front", x.walk(0, FRONT), 0);
        due(13, "beyond the stage", x.walk(0, FRONT), LATE);
        for (int cell = 1; cell < 6; cell++) {
            due(13, "right", x.walk(0, RIGHT), cell);
        }
        due(13, "beyond the row, where there is a cell", x.walk(0, RIGHT), LATE);
        due(13, "back", x.walk(0, BACK), 11);
        due(13, "left", x.walk(0, LEFT), 10);
        bring(x, 1, 0);
        due(13, "a butler", x.walk(1, FRONT), LATE);
        due(13, "walk(0, -1)", x.walk(0, -1), BAD);
        due(13, "the minute", x.about(9), 11);
        x = played("EDmP12P10");
        bring(x, 0, 0, FRONT);
        bring(x, 1, 0);
        due(13, "into a ghost", x.walk(1, FRONT), LATE);
    }

    private static void say() {
        OnlyEntrances x = played("EDmDnP10P10P10L01L10L12");
        bring(x, 0, 0);
        due(14, "to who is not on", x.say(0), LATE);
        bring(x, 1, 1);
        due(14, "say(1)", x.say(1), 1);
        due(14, "say(1) again", x.say(1), LATE);
        due(14, "say(0)", x.say(0), 2);
        due(14, "say(2)", x.say(2), LATE);
        due(14, "say(3)", x.say(3), UNKNOWN);
        due(14, "say(-1)", x.say(-1), UNKNOWN);
        due(14, "the minute", x.about(9), 4);
        due(14, "the acts", x.about(10), 4);
    }

    private static void shift() {
        OnlyEntrances x = played("EDmDrFaFbP10");
        bring(x, 0, 0, FRONT);
        due(15, "to a free cell", x.shift(0, 5), 0);
        due(15, "back", x.shift(0, 0), 5);
        due(15, "to its own", x.shift(0, 0), LATE);
        due(15, "to a stool's", x.shift(0, 1), LATE);
        due(15, "to a part's", x.shift(0, 6), LATE);
        due(15, "to a door's", x.shift(0, 12), LATE);
        due(15, "to another door's", x.shift(0, 17), LATE);
        due(15, "shift(2, 3)", x.shift(2, 3), UNKNOWN);
        due(15, "shift(0, 18)", x.shift(0, 18), UNKNOWN);
        due(15, "shift(0, -1)", x.shift(0, -1), UNKNOWN);
        due(15, "the minute", x.about(9), 4);
        due(15, "the acts", x.about(10), 4);
    }

    private static void undo() {
        OnlyEntrances x = played("EDmDnFfP10P10L01");
        x.enter(0, 0);
        x.enter(1, 1);
        x.walk(0, FRONT);
        x.say(0);
        x.shift(0, 3);
        due(16, "a stool", x.undo(), 4);
        due(16, "where it was", x.stool(0), 5);
        due(16, "a line", x.undo(), 3);
        due(16, "not said", x.about(6), 0);
        due(16, "a walk", x.undo(), 2);
        due(16, "where one was", x.part(0, 2), 12);
        due(16, "an entrance", x.undo(), 1);
        due(16, "not on", x.part(1, 2), NONE);
        due(16, "the minute", x.about(9), 1);
        due(16, "the first", x.undo(), 0);
        due(16, "nothing left", x.undo(), LATE);
        due(16, "the minute", x.about(9), 0);
        x.enter(0, 0);
        for (int act = 0; act < 20; act++) {
            x.walk(0, act % 2 == 0 ? FRONT : BACK);
        }
        due(16, "acts at most", x.about(10), 14);
        for (int left = 13; left >= 0; left--) {
            due(16, "undo", x.undo(), left);
        }
        due(16, "what was forgotten", x.undo(), LATE);
        due(16, "the minute of what was forgotten", x.about(9), 7);
        due(16, "the cell then", x.part(0, 2), 12);
    }

    private static void undoOfWhatIsLeft() {
        OnlyEntrances x = played("EDmDnFeP10P10L01");
        x.enter(0, 0);
        x.enter(1, 1);
        x.say(0);
        for (int act = 0; act < 5; act++) {
            x.walk(0, act % 2 == 0 ? FRONT : BACK);
            x.shift(0, act % 2 == 0 ? 5 : 4);
            x.walk(1, act % 2 == 0 ? FRONT : BACK);
        }
        due(16, "acts at most", x.about(10), 14);
        due(16, "the minute", x.about(9), 18);
        for (int act = 4; act >= 0; act--) {
            x.undo();
            due(16, "a walk of 1 undone", x.part(1, 2), act % 2 == 0 ? 13 : 7);
            x.undo();
            due(16, "a shift undone", x.stool(0), act % 2 == 0 ? 4 : 5);
            due(16, "a walk of 0 undone", x.undo(), act == 0 ? LATE : 3 * act - 1);
            due(16, "where 0 is then", x.part(0, 2), act % 2 == 0 && act > 0 ? 12 : 6);
        }
        due(16, "what was said stays", x.about(6), 1);
    }

    private static void way() {
        OnlyEntrances x = played("EDmFgFhP10P11P10");
        due(17, "who is not on", x.way(0, 0), LATE);
        due(17, "way(3, 0)", x.way(3, 0), UNKNOWN);
        due(17, "way(0, 18)", x.way(0, 18), UNKNOWN);
        due(17, "way(0, -1)", x.way(0, -1), UNKNOWN);
        bring(x, 0, 0);
        due(17, "to its own", x.way(0, 12), 0);
        due(17, "round the stools", x.way(0, 0), 6);
        due(17, "to a stool", x.way(0, 6), NONE);
        due(17, "straight", x.way(0, 17), 5);
        walkAll(x, 0, RIGHT);
        bring(x, 1, 0);
        due(17, "a butler's own", x.way(1, 12), 0);
        due(17, "a butler's other", x.way(1, 0), NONE);
        due(17, "to a part", x.way(0, 12), NONE);
        x = played("EDmFgFnP10");
        bring(x, 0, 0);
        due(17, "shut in", x.way(0, 0), NONE);
    }

    private static void place() {
        OnlyEntrances x = played("EDmP10P10P10L01L10L20");
        due(18, "who is not on", x.place(0, 0), LATE);
        due(18, "who is not on, bad", x.place(0, 2), BAD);
        due(18, "place(3, 2)", x.place(3, 2), UNKNOWN);
        bring(x, 1, 0, FRONT, FRONT, RIGHT, RIGHT, RIGHT);
        bring(x, 0, 0, FRONT);
        due(18, "the shortest, then the least", x.place(0, 0), 0);
        due(18, "how many", x.place(0, 1), 2);
        walkAll(x, 0, BACK, RIGHT);
        bring(x, 2, 0);
        due(18, "one's own is the shortest", x.place(2, 0), 12);
        due(18, "lines of others do not count", x.place(2, 1), 1);
        due(18, "three lines at one cell", x.place(0, 1), 3);
        due(18, "which", x.place(0, 0), 13);
        x = played("EDmP11P10L01");
        bring(x, 0, 0);
        due(18, "none would be heard", x.place(0, 1), 0);
        due(18, "then one's own", x.place(0, 0), 12);
    }

    private static void comes() {
        OnlyEntrances x = played("EDmDrFnP10P10P11P12P10");
        due(19, "seen at the door", x.comes(0, 0), 12);
        due(19, "comes(5, 0)", x.comes(5, 0), UNKNOWN);
        due(19, "comes(0, 2)", x.comes(0, 2), UNKNOWN);
        bring(x, 0, 0, FRONT, FRONT);
        due(19, "who is on", x.comes(0, 1), LATE);
        due(19, "who is on, by no door", x.comes(0, 3), UNKNOWN);
        due(19, "to where one is seen", x.comes(1, 0), 7);
        due(19, "a butler stays", x.comes(2, 0), 12);
        due(19, "a ghost goes too", x.comes(3, 0), 7);
        walkAll(x, 0, BACK);
        due(19, "shut in by a part and a stool", x.comes(1, 0), 12);
        walkAll(x, 0, BACK);
        due(19, "a door that is not free", x.comes(1, 0), NONE);
        due(19, "by the other", x.comes(1, 1), 17);
        due(19, "nothing is changed", x.part(1, 2), NONE);
        x = played("EDpP10P12P10");
        bring(x, 0, 0, FRONT, FRONT);
        due(19, "of like ones the least", x.comes(1, 0), 14);
        x = played("EDpP12P10");
        bring(x, 0, 0, FRONT, FRONT);
        due(19, "behind a ghost one is seen", x.comes(1, 0), 15);
    }

    private static void order() {
        OnlyEntrances x = played("EDmDnP10P10P10L01");
        due(20, "how many", x.order(false), 1);
        due(20, "the first of like ones", x.order(true), 123);
        x = played("EDmDnP10P10P10L12");
        String was = sum(x);
        due(20, "who comes last does not come", x.order(true), 231);
        due(20, "how many", x.order(false), 1);
        due(20, "nothing is changed", sum(x).equals(was) ? 1 : 0, 1);
        bring(x, 1, 0);
        due(20, "by the least door that is free", x.order(true), 31);
        bring(x, 2, 1, RIGHT);
        due(20, "of one", x.order(true), 1);
        due(20, "who would stand in the way", x.order(false), 0);
        bring(x, 0, 1);
        due(20, "all are on", x.order(true), 0);
        due(20, "all are on, one in the way", x.order(false), 0);
        walkAll(x, 0, FRONT);
        due(20, "all are on, how many", x.order(false), 1);
        x.say(0);
        due(20, "what was said is not heard", x.order(false), 0);
        x = played("EP10P10");
        due(20, "no door", x.order(true), 12);
        due(20, "no door, how many", x.order(false), 0);
    }

    private static void bars() {
        OnlyEntrances x = played("EDmDqFaP10P10P10P12L01L10L02");
        bring(x, 2, 0, RIGHT, RIGHT, RIGHT);
        bring(x, 3, 0, RIGHT, RIGHT);
        due(21, "neither is on", x.bars(0), NONE);
        bring(x, 0, 0);
        due(21, "one is not on", x.bars(0), NONE);
        bring(x, 1, 1);
        due(21, "a part and no ghost", x.bars(0), 0b100);
        due(21, "the other way", x.bars(1), 0b100);
        due(21, "a ghost alone", x.bars(2), 0);
        x.shift(0, 13);
        due(21, "a stool", x.bars(0), NONE);
        x.shift(0, 0);
        walkAll(x, 1, FRONT);
        due(21, "not in line", x.bars(0), NONE);
        due(21, "bars(3)", x.bars(3), UNKNOWN);
        due(21, "bars(-1)", x.bars(-1), UNKNOWN);
        x = played("EDmDpP10P10P10P10L32");
        bring(x, 0, 0, RIGHT, RIGHT);
        bring(x, 1, 0, RIGHT);
        bring(x, 2, 0);
        bring(x, 3, 1);
        due(21, "two parts, the least among them", x.bars(0), 0b11);
        x = played("EDmDnP10P10L01");
        bring(x, 0, 0);
        bring(x, 1, 1);
        x.say(0);
        due(21, "of a line that was said", x.bars(0), 0);
    }

    private static void leftOut() {
        OnlyEntrances x = played("EDmP10P10P10L01L10L12");
        due(22, "nobody is on", x.leftOut(0), NONE);
        due(22, "nobody is on", x.leftOut(1), NONE);
        due(22, "leftOut(2)", x.leftOut(2), BAD);
        due(22, "leftOut(-1)", x.leftOut(-1), BAD);
        bring(x, 0, 0, RIGHT, RIGHT);
        due(22, "who is alone", x.leftOut(0), 0);
        due(22, "none is heard", x.leftOut(1), 0);
        bring(x, 2, 0, RIGHT);
        bring(x, 1, 0);
        due(22, "who stands in the way", x.leftOut(0), 2);
        due(22, "how many", x.leftOut(1), 2);
        x = played("EDmP10P10P10L01L10L12");
        bring(x, 0, 0, RIGHT, RIGHT);
        bring(x, 1, 0, RIGHT);
        bring(x, 2, 0);
        due(22, "whose lines are fewest", x.leftOut(0), 2);
        due(22, "how many are left", x.leftOut(1), 2);
        x.say(0);
        x.say(1);
        due(22, "when two were said", x.leftOut(0), 0);
        due(22, "how many are left then", x.leftOut(1), 1);
        x = played("EDmP10P10P10L02");
        bring(x, 0, 0, RIGHT, RIGHT);
        bring(x, 1, 0, RIGHT, FRONT);
        bring(x, 2, 0, RIGHT);
        due(22, "of those who matter not", x.leftOut(0), 1);
        due(22, "how many", x.leftOut(1), 1);
    }

    private static void judge() {
        OnlyEntrances x = played("EDmDnFoP10P10P11L01L12");
        String was = sum(x);
        due(23, "all can be", x.judge(4, 100_111_301L), 0);
        due(23, "two enter", x.judge(2, 100_111L), NONE);
        due(23, "and one says", x.judge(3, 100_111_300L), NONE);
        due(23, "but not twice", x.judge(4, 100_111_300_300L), 3);
        due(23, "a line that is not heard", x.judge(3, 100_111_301L), 2);
        due(23, "a line of somebody", x.judge(3, 100_111_310L), 2);
        due(23, "no such line", x.judge(3, 100_111_302L), 2);
        due(23, "walks", x.judge(4, 100_202_202_201L), NONE);
        due(23, "walks off the stage", x.judge(4, 100_202_202_202L), 3);
        due(23, "no such way", x.judge(2, 100_204L), 1);
        due(23, "into who is there", x.judge(3, 100_111_201L), 2);
        due(23, "a door that is not free", x.judge(2, 100_110L), 1);
        due(23, "no such door", x.judge(1, 102L), 0);
        due(23, "no such part", x.judge(1, 130L), 0);
        due(23, "a butler", x.judge(2, 120_222L), 1);
        due(23, "doing 0", x.judge(1, 0L), 0);
        due(23, "doing 4", x.judge(2, 100_400L), 1);
        due(23, "doings with naughts ahead", x.judge(2, 100L), 0);
        due(23, "n 0", x.judge(0, 0L), BAD);
        due(23, "n 5", x.judge(5, 0L), BAD);
        due(23, "a row less than 0", x.judge(1, -1L), BAD);
        due(23, "too many figures", x.judge(1, 1000L), BAD);
        due(23, "too many figures", x.judge(4, 1_000_000_000_000L), BAD);
        due(23, "as many as can be", x.judge(4, 999_999_999_999L), 0);
        due(23, "far too many", x.judge(4, Long.MAX_VALUE), BAD);
        due(23, "nothing is changed", sum(x).equals(was) ? 1 : 0, 1);
    }

    private static void share() {
        OnlyEntrances x = played("EDmP10P10P10P10L01L10L12");
        due(24, "who is not on", x.share(0, true), 0);
        due(24, "who is not on", x.share(0, false), 1);
        due(24, "share(4)", x.share(4, true), UNKNOWN);
        due(24, "share(-1)", x.share(-1, false), UNKNOWN);
        bring(x, 0, 0, RIGHT, RIGHT);
        due(24, "alone", x.share(0, true), 0);
        due(24, "alone", x.share(0, false), 1);
        bring(x, 2, 0, RIGHT);
        bring(x, 1, 0);
        due(24, "0, for two lines, sometimes barred", x.share(0, true) * 100 + x.share(0, false), 103);
        due(24, "1, for three", x.share(1, true) * 100 + x.share(1, false), 506);
        due(24, "2, who stands in the way, above", x.share(2, true), -1);
        due(24, "2, who stands in the way, below", x.share(2, false), 6);
    }

    private static void tread() {
        OnlyEntrances x = new OnlyEntrances();
        due(25, "tread(18, 0)", x.tread(18, 0), UNKNOWN);
        due(25, "tread(-1, 10)", x.tread(-1, 10), UNKNOWN);
        due(25, "tread(0, 10)", x.tread(0, 10), BAD);
        due(25, "tread(0, -1)", x.tread(0, -1), BAD);
        for (int many = 1; many <= 6; many++) {
            due(25, "tread", x.tread(17, 9), many);
        }
        due(25, "a seventh", x.tread(0, 0), FULL);
        due(25, "a bad seventh", x.tread(0, 10), BAD);
        due(25, "an unknown seventh", x.tread(18, 0), UNKNOWN);
        due(26, "untread", x.untread(), 6);
        due(26, "untread again", x.untread(), 0);
        due(26, "none", x.about(11), 0);
        due(25, "tread", x.tread(0, 0), 1);
    }

    private static void doors() {
        OnlyEntrances x = played("EDmDoDrFnFgP10");
        due(27, "nothing is trod", x.doors(), 0b111);
        x.tread(14, 0);
        due(27, "a door's own cell", x.doors(), 0b010);
        x.untread();
        x.tread(5, 5);
        due(27, "five steps", x.doors(), 0b010);
        x.untread();
        x.tread(5, 2);
        due(27, "two steps", x.doors(), 0b100);
        x.untread();
        x.tread(5, 4);
        due(27, "no shorter", x.doors(), 0);
        x.untread();
        x.tread(16, 2);
        x.tread(3, 3);
        due(27, "both", x.doors(), 0b010);
        bring(x, 0, 1, RIGHT);
        due(27, "parts are not in the way", x.doors(), 0b010);
        x.shift(1, 9);
        due(27, "stools are, where they stand now", x.doors(), 0b010);
        x.shift(0, 8);
        due(27, "a way round", x.doors(), 0);
        x.untread();
        x.tread(9, 2);
        due(27, "nobody comes into a stool", x.doors(), 0);
    }

    private static void rests() {
        OnlyEntrances x = played("EDmDrP10P10P11");
        due(28, "rests(3, 0, 0)", x.rests(3, 0, 0), UNKNOWN);
        due(28, "rests(0, 3, 0)", x.rests(0, 3, 0), UNKNOWN);
        due(28, "one and the same", x.rests(1, 1, 0), BAD);
        due(28, "rests(0, 1, 2)", x.rests(0, 1, 2), BAD);
        due(28, "rests(0, 3, 2)", x.rests(0, 3, 2), UNKNOWN);
        due(28, "by two doors each way", x.rests(0, 1, 0), 2);
        due(28, "the first", x.rests(0, 1, 1), 1);
        bring(x, 0, 0, FRONT, FRONT);
        due(28, "one is on", x.rests(0, 1, 0), LATE);
        due(28, "the other is on", x.rests(1, 0, 0), LATE);
        due(28, "one is on, bad", x.rests(1, 0, 2), BAD);
        due(28, "by the door that is seen", x.rests(1, 2, 0), 1);
        due(28, "which", x.rests(1, 2, 1), 10);
        due(28, "the butler first", x.rests(2, 1, 1), 10);
        x = played("EP10P10");
        due(28, "no doors", x.rests(0, 1, 0), 0);
        due(28, "no doors, the first", x.rests(0, 1, 1), NONE);
    }

    private static void gives() {
        OnlyEntrances x = played("EDmDoDqP83P91P90P63P12");
        due(29, "no load", x.gives(0, 3, true), 1);
        due(29, "no load", x.gives(0, 3, false), 1);
        due(29, "no load, one", x.gives(1, 10, true), 0);
        due(29, "no load, one", x.gives(1, 10, false), 1);
        bring(x, 0, 0);
        due(29, "one of 10", x.gives(1, 4, true) * 100 + x.gives(1, 4, false), 205);
        bring(x, 1, 1);
        due(29, "9 is less than 10", x.gives(2, 4, true), 0);
        bring(x, 2, 2, LEFT);
        bring(x, 3, 2, FRONT, LEFT);
        due(29, "two of two", x.gives(2, 3, true) * 1000 + x.gives(2, 3, false), 9100);
        due(29, "one of two or more", x.gives(1, 3, true) * 1000 + x.gives(1, 3, false), 51100);
        due(29, "three of two", x.gives(3, 10, true), 0);
        due(29, "by no tenths", x.gives(1, 0, true), 0);
        due(29, "none by no tenths", x.gives(0, 0, true), 1);
        due(29, "by all", x.gives(2, 10, true), 1);
        due(29, "gives(7, 0)", x.gives(7, 0, true), BAD);
        due(29, "gives(-1, 0)", x.gives(-1, 0, true), BAD);
        due(29, "gives(0, 11)", x.gives(0, 11, true), BAD);
        due(29, "gives(0, -1)", x.gives(0, -1, true), BAD);
        due(29, "six may be asked for", x.gives(6, 5, true), 0);
    }

    private static void seedAndEvenings() {
        OnlyEntrances x = played("EDmDnDoFaP10P20P30P40P50P60");
        due(30, "at first", x.seed(5), 0);
        due(30, "then", x.seed(Long.MIN_VALUE), 5);
        due(30, "the least", x.seed(0), Long.MIN_VALUE);
        due(31, "evenings(0)", x.evenings(0), BAD);
        due(31, "evenings(31)", x.evenings(31), BAD);
        due(31, "a refusal leaves the seed", x.seed(0), 0);
        String was = sum(x);
        x.evenings(1);
        due(31, "the seed goes on", x.seed(0), 1442695040888963407L);
        due(31, "nothing else is changed", sum(x).equals(was) ? 1 : 0, 1);
        for (int m = 1; m <= 30; m++) {
            x.seed(12 - m);
            due(31, "evenings(" + m + ")", x.evenings(m), acted(12 - m, m));
        }
        OnlyEntrances empty = new OnlyEntrances();
        due(31, "nobody comes on an empty stage", empty.evenings(30), 0);
    }

    /** The evenings as acts of another object. */
    private static int acted(long seed, int m) {
        OnlyEntrances y = played("EDmDnDoFaP10P20P30P40P50P60");
        BigInteger x = BigInteger.valueOf(seed);
        BigInteger wrap = BigInteger.ONE.shiftLeft(64);
        int seen = 0;
        for (int time = 0; time < m; time++) {
            x = x.multiply(new BigInteger("6364136223846793005"));
            x = x.add(new BigInteger("1442695040888963407")).mod(wrap);
            int lot = x.shiftRight(33).mod(BigInteger.valueOf(42)).intValue();
            if (lot < 24) {
                y.walk(lot / 4, lot % 4);
            } else {
                y.enter((lot - 24) / 3, (lot - 24) % 3);
            }
            seen += Integer.bitCount(y.about(5));
        }
        return seen;
    }

    private static void slots() {
        OnlyEntrances x = played("EDmDnFaP10P10L01");
        due(33, "none was kept", x.again(0), LATE);
        bring(x, 0, 0);
        due(32, "keep", x.keep(0), 1);
        due(32, "keep leaves the acts", x.about(10), 1);
        bring(x, 1, 1);
        x.say(0);
        x.shift(0, 3);
        due(32, "keep", x.keep(1), 4);
        due(33, "again", x.again(0), 1);
        due(33, "who is on", x.about(4), 1);
        due(33, "what was said", x.about(6), 0);
        due(33, "where stools are", x.stool(0), 0);
        due(33, "the minute", x.about(9), 1);
        due(33, "no acts", x.undo(), LATE);
        x.walk(0, FRONT);
        due(33, "the other", x.again(1), 4);
        due(33, "who is on", x.about(4), 3);
        due(33, "where", x.part(0, 2), 12);
        due(33, "what was said", x.about(6), 1);
        due(33, "where stools are", x.stool(0), 3);
        due(33, "again and again", x.again(0), 1);
        due(32, "keep anew", x.keep(1), 1);
        due(33, "what was kept anew", x.again(1), 1);
        due(32, "keep(2)", x.keep(2), UNKNOWN);
        due(32, "keep(-1)", x.keep(-1), UNKNOWN);
        due(33, "again(2)", x.again(2), UNKNOWN);
        due(33, "again(-1)", x.again(-1), UNKNOWN);
    }

    /** What is refused changes nothing, and nothing is thrown. */
    private static void wildArguments() {
        OnlyEntrances x = played("EDmDnFaFbP10P11P12L01L12");
        bring(x, 0, 0, FRONT);
        bring(x, 1, 0);
        String was = sum(x);
        for (int wild : WILD) {
            int[] answers = {x.write(wild < 0 ? wild : wild + 192), x.about(wild), x.door(wild), x.stool(wild),
                x.part(wild, 0), x.part(0, wild), x.line(wild, 0), x.line(0, wild), x.load(wild), x.enter(wild, 0),
                x.enter(2, wild), x.walk(wild, 0), x.walk(0, wild), x.say(wild), x.shift(wild, 5), x.shift(0, wild),
                x.way(wild, 0), x.way(0, wild), x.place(wild, 0), x.place(0, wild), x.comes(wild, 0), x.comes(2, wild),
                x.bars(wild), x.leftOut(wild), x.judge(wild, 0), x.judge(1, wild < 0 ? wild : wild + 1000L),
                x.share(wild, true), x.tread(wild, 0), x.tread(0, wild), x.rests(wild, 2, 0), x.rests(2, wild, 0),
                x.rests(0, 2, wild), x.gives(wild, 0, true), x.gives(0, wild, true), x.evenings(wild), x.keep(wild),
                x.again(wild)};
            for (int i = 0; i < answers.length; i++) {
                due(0, "wild call " + i + " with " + wild + " is taken", answers[i] == UNKNOWN || answers[i] == BAD ? 0 : 1, 0);
            }
        }
        due(0, "what is refused changes nothing", sum(x).equals(was) ? 1 : 0, 1);
    }
}
