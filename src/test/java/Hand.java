import java.util.ArrayDeque;
import java.util.Arrays;

/** What the tests by hand share: named tests, plays that are told, parts that are led to cells, pictures of an object. */
final class Hand {
    static final int UNKNOWN = -1, BAD = -2, LATE = -3, FULL = -4, NONE = -9;
    static final int LEFT = 0, RIGHT = 1, FRONT = 2, BACK = 3;
    static final int LEAST = Integer.MIN_VALUE, GREATEST = Integer.MAX_VALUE;
    /** As much of all as there may be: 3 doors, 4 stools, 6 parts, 6 lines. */
    static final String FULL_PLAY = "EDmDnDoFaFbFcFdP10P20P30P40P50P63L01L12L23L34L45L50";
    private static String sentence = "";
    private static int tests = 0;
    private static int wrong = 0;

    private Hand() {
    }

    /** One test: of what the sentence of the document says. */
    static void test(String words, Runnable body) {
        sentence = words;
        tests++;
        try {
            body.run();
        } catch (RuntimeException thrown) {
            fail("threw " + thrown);
        }
    }

    static void fail(String what) {
        wrong++;
        System.out.println("\"" + sentence + "\": " + what);
    }

    static void due(String what, long got, long want) {
        if (got != want) {
            fail(what + " answered " + got + ", due is " + want);
        }
    }

    static void same(String what, String got, String want) {
        if (!got.equals(want)) {
            fail(what + "\n  is  " + got + "\n  was " + want);
        }
    }

    /** Says how the tests went, and ends the program if one failed. */
    static void end(String name) {
        System.out.println(name + ": " + tests + " tests, " + (wrong == 0 ? "all is as told" : wrong + " faults"));
        if (wrong != 0) {
            System.exit(1);
        }
    }

    static void write(OnlyEntrances x, String text) {
        for (int i = 0; i < text.length(); i++) {
            x.write(text.charAt(i));
        }
    }

    static OnlyEntrances told(String text) {
        OnlyEntrances x = new OnlyEntrances();
        write(x, text);
        return x;
    }

    static OnlyEntrances played(String text) {
        OnlyEntrances x = told(text);
        if (x.play() < 0) {
            fail("the play " + text + " is refused");
        }
        return x;
    }

    static int faultOf(String text) {
        return told(text).fault();
    }

    /** A play whose text has been made longer by what can be none. */
    static void spoil(OnlyEntrances x) {
        x.write('x');
    }

    static void walk(OnlyEntrances x, int part, int... ways) {
        for (int way : ways) {
            if (x.walk(part, way) < 0) {
                fail("part " + part + " can not go " + way);
            }
        }
    }

    /** A part enters by a door and walks by free cells to a cell. */
    static void stand(OnlyEntrances x, int part, int door, int cell) {
        int at = x.enter(part, door);
        if (at < 0) {
            fail("part " + part + " can not enter by " + door);
            return;
        }
        lead(x, part, cell);
    }

    /** A part that is on walks by free cells to a cell. */
    static void lead(OnlyEntrances x, int part, int cell) {
        int free = x.about(8);
        int at = x.part(part, 2);
        int[] steps = stepsTo(cell, free | 1 << at);
        while (at != cell) {
            int way = 0;
            while (way < 4 && (beside(at, way) < 0 || steps[beside(at, way)] != steps[at] - 1)) {
                way++;
            }
            if (steps[at] < 0 || way == 4 || x.walk(part, way) != beside(at, way)) {
                fail("part " + part + " can not be led from " + at + " to " + cell);
                return;
            }
            at = beside(at, way);
        }
    }

    static int beside(int cell, int way) {
        int row = cell / 6 + (way == BACK ? 1 : way == FRONT ? -1 : 0);
        int column = cell % 6 + (way == RIGHT ? 1 : way == LEFT ? -1 : 0);
        return row < 0 || row > 2 || column < 0 || column > 5 ? -1 : 6 * row + column;
    }

    /** From each cell the steps to one, by cells that are open; -1: none. */
    static int[] stepsTo(int cell, int open) {
        int[] steps = new int[18];
        Arrays.fill(steps, -1);
        ArrayDeque<Integer> queue = new ArrayDeque<>();
        if ((open >> cell & 1) == 1) {
            steps[cell] = 0;
            queue.add(cell);
        }
        while (!queue.isEmpty()) {
            int at = queue.remove();
            for (int way = 0; way < 4; way++) {
                int next = beside(at, way);
                if (next >= 0 && steps[next] < 0 && (open >> next & 1) == 1) {
                    steps[next] = steps[at] + 1;
                    queue.add(next);
                }
            }
        }
        return steps;
    }

    /** A fraction as 1000 times what stands above and what stands below. */
    static int fraction(int above, int below) {
        return 1000 * above + below;
    }

    static int share(OnlyEntrances x, int part) {
        return fraction(x.share(part, true), x.share(part, false));
    }

    static int gives(OnlyEntrances x, int m, int tenths) {
        return fraction(x.gives(m, tenths, true), x.gives(m, tenths, false));
    }

    /** Where all are, what was said, where stools are, the minute, the acts. */
    static String small(OnlyEntrances x) {
        StringBuilder all = new StringBuilder();
        for (int part = 0; part < 6; part++) {
            all.append(x.part(part, 2)).append(' ');
        }
        all.append("f");
        for (int stool = 0; stool < 4; stool++) {
            all.append(x.stool(stool)).append(' ');
        }
        return all.append("s").append(x.about(6)).append(" m").append(x.about(9)).append(" a").append(x.about(10))
            .append("; ").toString();
    }

    /** All that can be seen of an object without changing it. */
    static String picture(OnlyEntrances x) {
        StringBuilder all = new StringBuilder(small(x));
        for (int what = 0; what < 13; what++) {
            all.append(x.about(what)).append(' ');
        }
        for (int i = 0; i < 6; i++) {
            all.append(x.door(i)).append('p').append(x.part(i, 0)).append(x.part(i, 1));
            all.append('l').append(x.line(i, 0)).append(x.line(i, 1)).append(' ');
        }
        return all.append('d').append(x.doors()).append('t').append(x.fault()).append("; ").toString();
    }

    /** Also what can be seen by changing it: what can be undone, what was kept, the seed, what is trod, the text. */
    static String wholePicture(OnlyEntrances x) {
        StringBuilder all = new StringBuilder(picture(x));
        all.append("seed ").append(x.seed(0)).append("; ");
        for (int left = x.about(10); left > 0; left--) {
            all.append("undo ").append(x.undo()).append(' ').append(small(x));
        }
        for (int slot = 0; slot < 2; slot++) {
            all.append("again ").append(x.again(slot)).append(' ').append(small(x));
        }
        all.append("trod ").append(x.untread());
        all.append(" play ").append(x.play()).append(' ').append(picture(x));
        return all.append(" wipe ").append(x.wipe()).toString();
    }
}
