import java.util.function.Supplier;
import java.util.function.ToLongFunction;

/**
 * Each refusal is answered as told and changes nothing; and no question changes what is.
 * Of two objects that were used alike one is refused a call: all that can be seen of both, and all that can be
 * brought to light by undoing, by what was kept, by the seed and by making the play anew, must then be alike.
 */
public final class RefusalsTest {
    private static final long TWELVE_FIGURES = 1_000_000_000_000L;

    public static void main(String[] args) {
        ofTheText();
        ofThePlay();
        ofWhatIsAsked();
        ofEntered();
        ofWalked();
        ofSaidAndShifted();
        ofUndone();
        ofWays();
        ofBarsToShares();
        ofDoors();
        ofChances();
        ofSlots();
        nothingIsThere();
        allTogether();
        questionsChangeNothing();
        Hand.end("refusals");
    }

    /** 3 doors, 2 stools, 6 parts, 5 lines; 0 to 3 are on, 0 was said, slot 0 is kept, 2 are trod, 12 acts. */
    private static OnlyEntrances crowded() {
        OnlyEntrances x = Hand.played("EDmDoDqFaFlP30P41P52P93P20P10L01L10L23L04L45");
        Hand.stand(x, 0, 0, 7);
        x.enter(1, 1);
        x.enter(2, 2);
        x.enter(3, 0);
        x.say(0);
        x.keep(0);
        x.shift(0, 5);
        x.walk(2, Hand.LEFT);
        x.walk(0, Hand.FRONT);
        x.walk(0, Hand.BACK);
        x.shift(1, 8);
        x.tread(17, 3);
        x.tread(9, 2);
        x.seed(77);
        return x;
    }

    /** The same with a text that is no play. */
    private static OnlyEntrances spoiled() {
        OnlyEntrances x = crowded();
        Hand.spoil(x);
        return x;
    }

    /** The same with 60 bytes, 6 trod, both slots kept, 14 acts, and all on. */
    private static OnlyEntrances full() {
        OnlyEntrances x = crowded();
        while (x.about(12) < 60) {
            Hand.spoil(x);
        }
        for (int cell = 0; cell < 4; cell++) {
            x.tread(cell, cell + 2);
        }
        Hand.stand(x, 4, 2, 11);
        x.enter(5, 2);
        x.keep(1);
        return x;
    }

    /** Gone on from what was kept: no acts. */
    private static OnlyEntrances goneOn() {
        OnlyEntrances x = crowded();
        x.again(0);
        return x;
    }

    private static void refused(String words, Supplier<OnlyEntrances> state, int due, ToLongFunction<OnlyEntrances> call) {
        Hand.test(words, () -> {
            OnlyEntrances x = state.get();
            Hand.due("the call", call.applyAsLong(x), due);
            Hand.same("what is refused changes something", Hand.wholePicture(x), Hand.wholePicture(state.get()));
        });
    }

    private static void unknown(String words, ToLongFunction<OnlyEntrances> call) {
        refused(words, RefusalsTest::crowded, Hand.UNKNOWN, call);
    }

    private static void bad(String words, ToLongFunction<OnlyEntrances> call) {
        refused(words, RefusalsTest::crowded, Hand.BAD, call);
    }

    private static void late(String words, ToLongFunction<OnlyEntrances> call) {
        refused(words, RefusalsTest::crowded, Hand.LATE, call);
    }

    private static void ofTheText() {
        for (int letter : new int[] {-1, 256, 325, Hand.LEAST, Hand.GREATEST}) {
            bad("write: BAD: " + letter, x -> x.write(letter));
            refused("write: BAD on a full text: " + letter, RefusalsTest::full, Hand.BAD, x -> x.write(letter));
        }
        for (int letter : new int[] {0, 'D', 255}) {
            refused("write: FULL: " + letter, RefusalsTest::full, Hand.FULL, x -> x.write(letter));
        }
    }

    private static void ofThePlay() {
        refused("play: LATE: a FAULT", RefusalsTest::spoiled, Hand.LATE, OnlyEntrances::play);
        refused("play: LATE: a FAULT in a full text", RefusalsTest::full, Hand.LATE, OnlyEntrances::play);
        for (String text : new String[] {"", "D", "EDmDnP93P13P", "EDmDnFaP10P10L0", "EDmP10P10L01L10L00", "EDmP12P10D"}) {
            refused("play: LATE: the text " + text, () -> {
                OnlyEntrances x = crowded();
                x.wipe();
                Hand.write(x, text);
                return x;
            }, Hand.LATE, OnlyEntrances::play);
        }
    }

    private static void ofWhatIsAsked() {
        for (int wrong : new int[] {-1, Hand.LEAST, Hand.GREATEST, 64}) {
            bad("about: BAD: " + wrong, x -> x.about(wrong));
            unknown("door: UNKNOWN: " + wrong, x -> x.door(wrong));
            unknown("stool: UNKNOWN: " + wrong, x -> x.stool(wrong));
            unknown("part: UNKNOWN: " + wrong, x -> x.part(wrong, 0));
            bad("part: BAD: " + wrong, x -> x.part(0, wrong));
            unknown("line: UNKNOWN: " + wrong, x -> x.line(wrong, 0));
            bad("line: BAD: " + wrong, x -> x.line(0, wrong));
            bad("load: BAD: " + wrong, x -> x.load(wrong));
        }
        bad("about: BAD: one too many", x -> x.about(13));
        unknown("door: UNKNOWN: one too many", x -> x.door(3));
        unknown("stool: UNKNOWN: one too many", x -> x.stool(2));
        unknown("part: UNKNOWN: one too many", x -> x.part(6, 0));
        bad("part: BAD: one too many", x -> x.part(0, 5));
        bad("part: BAD, of one that is not on", x -> x.part(4, 5));
        unknown("line: UNKNOWN: one too many", x -> x.line(5, 0));
        bad("line: BAD: one too many", x -> x.line(0, 4));
        bad("load: BAD: one too many", x -> x.load(6));
    }

    private static void ofEntered() {
        for (int wrong : new int[] {-1, Hand.LEAST, Hand.GREATEST, 32}) {
            unknown("enter: UNKNOWN: part " + wrong, x -> x.enter(wrong, 2));
            unknown("enter: UNKNOWN: door " + wrong, x -> x.enter(4, wrong));
        }
        unknown("enter: UNKNOWN: part, one too many", x -> x.enter(6, 2));
        unknown("enter: UNKNOWN: door, one too many", x -> x.enter(4, 3));
        unknown("enter: UNKNOWN: door, though it is ON", x -> x.enter(0, 3));
        late("enter: LATE: it is ON", x -> x.enter(0, 2));
        late("enter: LATE: it is ON, a butler", x -> x.enter(1, 2));
        late("enter: LATE: the DOOR's CELL is not FREE", x -> x.enter(4, 0));
        late("enter: LATE: the DOOR's CELL is not FREE, a butler is there", x -> x.enter(5, 1));
        late("enter: LATE: both", x -> x.enter(0, 0));
    }

    private static void ofWalked() {
        for (int wrong : new int[] {-1, Hand.LEAST, Hand.GREATEST, 32}) {
            unknown("walk: UNKNOWN: part " + wrong, x -> x.walk(wrong, 2));
            bad("walk: BAD: way " + wrong, x -> x.walk(0, wrong));
        }
        unknown("walk: UNKNOWN: one too many", x -> x.walk(6, 2));
        unknown("walk: UNKNOWN, though the way is BAD", x -> x.walk(6, 4));
        bad("walk: BAD: one too many", x -> x.walk(0, 4));
        bad("walk: BAD, though it is not ON", x -> x.walk(4, 4));
        bad("walk: BAD, though it is a butler", x -> x.walk(1, 4));
        for (int way = 0; way < 4; way++) {
            int towards = way;
            late("walk: LATE: it is not ON, way " + way, x -> x.walk(4, towards));
            late("walk: LATE: a butler, way " + way, x -> x.walk(1, towards));
        }
        late("walk: LATE: to the left of the ROW", x -> x.walk(3, Hand.LEFT));
        late("walk: LATE: beyond the STAGE", x -> x.walk(3, Hand.BACK));
        late("walk: LATE: a stool is there", x -> x.walk(0, Hand.RIGHT));
        late("walk: LATE: a butler is there", x -> x.walk(2, Hand.LEFT));
        refused("walk: LATE: a ghost is there", () -> {
            OnlyEntrances x = crowded();
            Hand.stand(x, 4, 2, 9);
            return x;
        }, Hand.LATE, x -> x.walk(4, Hand.BACK));
        refused("walk: LATE: beyond the front", () -> {
            OnlyEntrances x = crowded();
            x.walk(0, Hand.FRONT);
            return x;
        }, Hand.LATE, x -> x.walk(0, Hand.FRONT));
        refused("walk: LATE: to the right of the ROW", () -> {
            OnlyEntrances x = crowded();
            Hand.stand(x, 4, 2, 11);
            return x;
        }, Hand.LATE, x -> x.walk(4, Hand.RIGHT));
        refused("walk: LATE: of 14 acts", RefusalsTest::full, Hand.LATE, x -> x.walk(0, Hand.RIGHT));
    }

    private static void ofSaidAndShifted() {
        for (int wrong : new int[] {-1, Hand.LEAST, Hand.GREATEST, 32}) {
            unknown("say: UNKNOWN: " + wrong, x -> x.say(wrong));
            unknown("shift: UNKNOWN: stool " + wrong, x -> x.shift(wrong, 17));
            unknown("shift: UNKNOWN: cell " + wrong, x -> x.shift(0, wrong));
        }
        unknown("say: UNKNOWN: one too many", x -> x.say(5));
        late("say: LATE: it was said", x -> x.say(0));
        late("say: LATE: no sight, a butler between", x -> x.say(2));
        late("say: LATE: one is not ON", x -> x.say(3));
        late("say: LATE: neither is ON", x -> x.say(4));
        unknown("shift: UNKNOWN: stool, one too many", x -> x.shift(2, 17));
        unknown("shift: UNKNOWN: cell, one too many", x -> x.shift(0, 18));
        unknown("shift: UNKNOWN: stool, though the cell is not FREE", x -> x.shift(2, 5));
        late("shift: LATE: its own CELL", x -> x.shift(0, 5));
        late("shift: LATE: another STOOL's", x -> x.shift(0, 8));
        late("shift: LATE: a PART's", x -> x.shift(0, 7));
        late("shift: LATE: a GHOST's", x -> x.shift(0, 15));
        late("shift: LATE: a DOOR's that is FREE", x -> x.shift(0, 16));
        late("shift: LATE: a DOOR's that is not", x -> x.shift(1, 12));
    }

    private static void ofUndone() {
        refused("undo: LATE: there is none", RefusalsTest::goneOn, Hand.LATE, OnlyEntrances::undo);
        refused("undo: LATE: all are undone", () -> {
            OnlyEntrances x = crowded();
            while (x.about(10) > 0) {
                x.undo();
            }
            return x;
        }, Hand.LATE, OnlyEntrances::undo);
        refused("undo: LATE: what was forgotten can not be undone", () -> {
            OnlyEntrances x = full();
            for (int act = 0; act < 14; act++) {
                x.undo();
            }
            return x;
        }, Hand.LATE, OnlyEntrances::undo);
    }

    private static void ofWays() {
        for (int wrong : new int[] {-1, Hand.LEAST, Hand.GREATEST, 32}) {
            unknown("way: UNKNOWN: part " + wrong, x -> x.way(wrong, 0));
            unknown("way: UNKNOWN: cell " + wrong, x -> x.way(0, wrong));
            unknown("place: UNKNOWN: " + wrong, x -> x.place(wrong, 0));
            bad("place: BAD: " + wrong, x -> x.place(0, wrong));
            unknown("comes: UNKNOWN: part " + wrong, x -> x.comes(wrong, 2));
            unknown("comes: UNKNOWN: door " + wrong, x -> x.comes(4, wrong));
        }
        unknown("way: UNKNOWN: part, one too many", x -> x.way(6, 0));
        unknown("way: UNKNOWN: cell, one too many", x -> x.way(0, 18));
        unknown("way: UNKNOWN: cell, though it is not ON", x -> x.way(4, 18));
        late("way: LATE: it is not ON", x -> x.way(4, 0));
        unknown("place: UNKNOWN: one too many", x -> x.place(6, 0));
        unknown("place: UNKNOWN, though what is BAD", x -> x.place(6, 2));
        bad("place: BAD: one too many", x -> x.place(0, 2));
        bad("place: BAD, though it is not ON", x -> x.place(4, 2));
        late("place: LATE: it is not ON", x -> x.place(4, 0));
        late("place: LATE: it is not ON, how many", x -> x.place(4, 1));
        unknown("comes: UNKNOWN: part, one too many", x -> x.comes(6, 2));
        unknown("comes: UNKNOWN: door, one too many", x -> x.comes(4, 3));
        unknown("comes: UNKNOWN: door, though it is ON", x -> x.comes(0, 3));
        late("comes: LATE: it is ON", x -> x.comes(0, 2));
        late("comes: LATE: it is ON, and the door is not FREE", x -> x.comes(0, 0));
    }

    private static void ofBarsToShares() {
        for (int wrong : new int[] {-1, Hand.LEAST, Hand.GREATEST, 32}) {
            unknown("bars: UNKNOWN: " + wrong, x -> x.bars(wrong));
            bad("leftOut: BAD: " + wrong, x -> x.leftOut(wrong));
            bad("judge: BAD: n " + wrong, x -> x.judge(wrong, 100));
            unknown("share: UNKNOWN: " + wrong, x -> x.share(wrong, true));
            unknown("share: UNKNOWN, below: " + wrong, x -> x.share(wrong, false));
        }
        unknown("bars: UNKNOWN: one too many", x -> x.bars(5));
        bad("leftOut: BAD: one too many", x -> x.leftOut(2));
        bad("judge: BAD: n, none", x -> x.judge(0, 0));
        bad("judge: BAD: n, one too many", x -> x.judge(5, 0));
        long most = 1;
        for (int n = 1; n <= 4; n++) {
            int doings = n;
            long tooMany = most = 1000 * most;
            bad("judge: BAD: row, figures for " + n + ", one too many", x -> x.judge(doings, tooMany));
            bad("judge: BAD: row, less than 0, for " + n, x -> x.judge(doings, -1));
            bad("judge: BAD: row, the greatest, for " + n, x -> x.judge(doings, Long.MAX_VALUE));
            bad("judge: BAD: row, the least, for " + n, x -> x.judge(doings, Long.MIN_VALUE));
        }
        bad("judge: BAD: both", x -> x.judge(5, TWELVE_FIGURES));
        unknown("share: UNKNOWN: one too many", x -> x.share(6, true));
    }

    private static void ofDoors() {
        for (int wrong : new int[] {-1, Hand.LEAST, Hand.GREATEST, 32}) {
            unknown("tread: UNKNOWN: " + wrong, x -> x.tread(wrong, 0));
            bad("tread: BAD: m " + wrong, x -> x.tread(0, wrong));
        }
        unknown("tread: UNKNOWN: one too many", x -> x.tread(18, 0));
        unknown("tread: UNKNOWN, though m is BAD", x -> x.tread(18, 10));
        bad("tread: BAD: m, one too many", x -> x.tread(0, 10));
        refused("tread: FULL: 6", RefusalsTest::full, Hand.FULL, x -> x.tread(0, 0));
        refused("tread: FULL: 6, the last cell", RefusalsTest::full, Hand.FULL, x -> x.tread(17, 9));
        refused("tread: UNKNOWN, though it is FULL", RefusalsTest::full, Hand.UNKNOWN, x -> x.tread(18, 0));
        refused("tread: BAD, though it is FULL", RefusalsTest::full, Hand.BAD, x -> x.tread(0, 10));
    }

    private static void ofChances() {
        for (int wrong : new int[] {-1, Hand.LEAST, Hand.GREATEST, 32}) {
            unknown("rests: UNKNOWN: part " + wrong, x -> x.rests(wrong, 4, 0));
            unknown("rests: UNKNOWN: other " + wrong, x -> x.rests(4, wrong, 0));
            bad("rests: BAD: what " + wrong, x -> x.rests(4, 5, wrong));
            bad("gives: BAD: m " + wrong, x -> x.gives(wrong, 5, true));
            bad("gives: BAD: x " + wrong, x -> x.gives(0, wrong, true));
            bad("gives: BAD, below: x " + wrong, x -> x.gives(0, wrong, false));
            bad("evenings: BAD: " + wrong, x -> x.evenings(wrong));
        }
        unknown("rests: UNKNOWN: part, one too many", x -> x.rests(6, 4, 0));
        unknown("rests: UNKNOWN: other, one too many", x -> x.rests(4, 6, 0));
        unknown("rests: UNKNOWN, though both are one", x -> x.rests(6, 6, 0));
        unknown("rests: UNKNOWN, though what is BAD", x -> x.rests(4, 6, 2));
        unknown("rests: UNKNOWN, though one is ON", x -> x.rests(0, 6, 0));
        bad("rests: BAD: both are one", x -> x.rests(4, 4, 0));
        bad("rests: BAD: both are one that is ON", x -> x.rests(0, 0, 0));
        bad("rests: BAD: what, one too many", x -> x.rests(4, 5, 2));
        bad("rests: BAD: what, though one is ON", x -> x.rests(0, 5, 2));
        late("rests: LATE: the one is ON", x -> x.rests(0, 5, 0));
        late("rests: LATE: the other one is ON", x -> x.rests(5, 0, 1));
        late("rests: LATE: both are ON", x -> x.rests(0, 1, 0));
        bad("gives: BAD: m, one too many", x -> x.gives(7, 5, true));
        bad("gives: BAD: x, one too many", x -> x.gives(0, 11, true));
        bad("evenings: BAD: none", x -> x.evenings(0));
        bad("evenings: BAD: one too many", x -> x.evenings(31));
    }

    private static void ofSlots() {
        for (int wrong : new int[] {-1, 2, Hand.LEAST, Hand.GREATEST, 32}) {
            unknown("keep: UNKNOWN: " + wrong, x -> x.keep(wrong));
            unknown("again: UNKNOWN: " + wrong, x -> x.again(wrong));
        }
        late("again: LATE: none were kept", x -> x.again(1));
        refused("again: LATE: what was kept is gone", () -> {
            OnlyEntrances x = crowded();
            x.play();
            x.enter(0, 0);
            return x;
        }, Hand.LATE, x -> x.again(0));
    }

    private static void nothingIsThere() {
        refused("A new object: play", OnlyEntrances::new, Hand.LATE, OnlyEntrances::play);
        refused("A new object: undo", OnlyEntrances::new, Hand.LATE, OnlyEntrances::undo);
        refused("A new object: again", OnlyEntrances::new, Hand.LATE, x -> x.again(0));
        refused("A new object: enter", OnlyEntrances::new, Hand.UNKNOWN, x -> x.enter(0, 0));
        refused("A new object: walk", OnlyEntrances::new, Hand.UNKNOWN, x -> x.walk(0, 0));
        refused("A new object: say", OnlyEntrances::new, Hand.UNKNOWN, x -> x.say(0));
        refused("A new object: shift", OnlyEntrances::new, Hand.UNKNOWN, x -> x.shift(0, 0));
        refused("A new object: rests", OnlyEntrances::new, Hand.UNKNOWN, x -> x.rests(0, 1, 0));
        Supplier<OnlyEntrances> noDoors = () -> Hand.played("EFaP10P10L01");
        refused("No doors: enter", noDoors, Hand.UNKNOWN, x -> x.enter(0, 0));
        refused("No doors: comes", noDoors, Hand.UNKNOWN, x -> x.comes(0, 0));
        refused("No doors: say", noDoors, Hand.LATE, x -> x.say(0));
        refused("No doors: walk", noDoors, Hand.LATE, x -> x.walk(0, 0));
    }

    /** Many refusals one behind the other change as little as one. */
    private static void allTogether() {
        Hand.test("What is refused changes nothing", () -> {
            OnlyEntrances x = crowded();
            int[] wrong = {Hand.LEAST, -1, 99, Hand.GREATEST};
            for (int n : wrong) {
                x.write(n == 99 ? 256 : n);
                x.enter(n, 2);
                x.enter(4, n);
                x.walk(n, 2);
                x.walk(0, n);
                x.say(n);
                x.shift(n, 17);
                x.shift(0, n);
                x.tread(n, 0);
                x.tread(0, n);
                x.evenings(n);
                x.keep(n);
                x.again(n);
                x.again(1);
            }
            Hand.same("many refusals change something", Hand.wholePicture(x), Hand.wholePicture(crowded()));
        });
    }

    private static void asked(String words, ToLongFunction<OnlyEntrances> call) {
        Hand.test("In what follows nothing is changed: " + words, () -> {
            OnlyEntrances x = crowded();
            if (call.applyAsLong(x) < 0) {
                Hand.fail("the question is refused");
            }
            Hand.same("the question changes something", Hand.wholePicture(x), Hand.wholePicture(crowded()));
        });
    }

    private static void questionsChangeNothing() {
        asked("way", x -> x.way(0, 17) + x.way(2, 1) + x.way(3, 0) + x.way(0, 7));
        asked("place", x -> x.place(0, 0) + x.place(2, 1) + x.place(3, 0) + x.place(1, 1));
        asked("comes", x -> x.comes(4, 2) + x.comes(5, 2));
        asked("comes, by a door that is not free", x -> x.comes(4, 0) == Hand.NONE ? 1 : -1);
        asked("order", x -> x.order(false) + x.order(true));
        asked("bars", x -> x.bars(0) + x.bars(2));
        asked("leftOut", x -> x.leftOut(0) + x.leftOut(1));
        asked("judge, all can be", x -> x.judge(4, 142_242_301_240L) == Hand.NONE ? 1 : -1);
        asked("judge, the last can not", x -> x.judge(4, 142_202_301_301L));
        asked("share", x -> x.share(0, false) + x.share(1, false) + x.share(5, false));
        asked("doors", x -> x.doors());
        asked("rests", x -> x.rests(4, 5, 0) + x.rests(5, 4, 1));
        asked("gives", x -> x.gives(1, 3, true) + x.gives(0, 3, false));
        asked("fault", x -> x.fault() == Hand.NONE ? 1 : -1);
        asked("part", x -> x.part(0, 3) + x.part(3, 4) + x.part(2, 2));
        asked("line", x -> x.line(0, 2) + x.line(1, 3));
        asked("about", x -> x.about(5) + x.about(7) + x.about(8));
        asked("load", x -> x.load(0) + x.load(2));
        asked("door and stool", x -> x.door(2) + x.stool(1));
        Hand.test("EVENINGS: nothing changes but THE SEED", () -> {
            OnlyEntrances x = crowded();
            x.evenings(30);
            x.seed(77);
            Hand.same("evenings change something", Hand.wholePicture(x), Hand.wholePicture(crowded()));
        });
        Hand.test("keep changes no more than what is kept", () -> {
            OnlyEntrances x = crowded();
            x.keep(0);
            Hand.same("keep changes something", Hand.picture(x), Hand.picture(crowded()));
        });
    }
}
