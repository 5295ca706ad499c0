import java.lang.reflect.Method;
import java.math.BigInteger;
import java.util.ArrayDeque;
import java.util.ArrayList;
import java.util.Arrays;
import java.util.HashMap;
import java.util.List;
import java.util.Map;
import java.util.Random;
import java.util.TreeMap;

/** Random runs of calls, each answer compared with that of a slow model written from the document by itself. */
public final class ModelTest {
    private static final int RUNS = 1500, CALLS = 250, PRINTED = 20;
    private static int wrong = 0;

    public static void main(String[] args) throws Exception {
        Map<String, Method> real = publicMethods(OnlyEntrances.class);
        Map<String, Method> plain = publicMethods(Model.class);
        if (!real.keySet().equals(plain.keySet())) {
            System.out.println("the faces differ: " + real.keySet() + " and " + plain.keySet());
            System.exit(1);
        }
        Map<String, Integer> answers = new TreeMap<>();
        for (int run = 0; run < RUNS && wrong < PRINTED; run++) {
            new Run(run, real, plain, answers).go();
        }
        for (String name : real.keySet()) {
            if (answers.getOrDefault(name + " taken", 0) < 50) {
                wrong++;
                System.out.println("the runs hardly use " + name + ": " + answers);
            }
        }
        System.out.println(wrong == 0 ? "the class and the model agree" : "the class and the model differ");
        if (wrong != 0) {
            System.exit(1);
        }
    }

    private static Map<String, Method> publicMethods(Class<?> type) {
        Map<String, Method> found = new TreeMap<>();
        for (Method method : type.getDeclaredMethods()) {
            if (java.lang.reflect.Modifier.isPublic(method.getModifiers())) {
                found.put(method.getName(), method);
            }
        }
        return found;
    }

    /** One run of calls on a new object and a new model. */
    private static final class Run {
        final int number;
        final Random random;
        final Map<String, Method> real;
        final Map<String, Method> plain;
        final Map<String, Integer> answers;
        final List<String> names;
        final OnlyEntrances object = new OnlyEntrances();
        final Model model = new Model();
        final List<String> trace = new ArrayList<>();
        boolean same = true;

        Run(int number, Map<String, Method> real, Map<String, Method> plain, Map<String, Integer> answers) {
            this.number = number;
            this.random = new Random(7919L * number + 3);
            this.real = real;
            this.plain = plain;
            this.answers = answers;
            this.names = new ArrayList<>(real.keySet());
        }

        void go() throws Exception {
            if (random.nextInt(10) != 0) {
                tell();
            }
            for (int call = 0; call < CALLS && same; call++) {
                int lot = random.nextInt(200);
                if (lot == 0) {
                    tell();
                } else if (lot < 100) {
                    randomAct();
                } else {
                    String name = names.get(random.nextInt(names.size()));
                    if (!name.equals("play") || random.nextInt(8) == 0) {
                        call(name, argumentsOf(name));
                    }
                }
            }
            for (int what = 0; what < 13 && same; what++) {
                call("about", what);
            }
        }

        void tell() throws Exception {
            call("wipe");
            String text = randomText();
            for (int i = 0; i < text.length() && same; i++) {
                call("write", (int) text.charAt(i));
            }
            if (same) {
                call("fault");
            }
            if (same) {
                call("play");
            }
        }

        void randomAct() throws Exception {
            int lot = random.nextInt(10);
            if (lot < 3) {
                call("enter", random.nextInt(6), random.nextInt(3));
            } else if (lot < 8) {
                call("walk", random.nextInt(6), random.nextInt(4));
            } else if (lot == 8) {
                call(random.nextInt(3) == 0 ? "say" : "line", random.nextInt(2) == 0
                    ? new Object[] {random.nextInt(6)} : new Object[] {random.nextInt(6), 3});
            } else if (random.nextInt(3) == 0) {
                call("shift", random.nextInt(4), random.nextInt(18));
            } else {
                call("about", random.nextInt(13));
            }
        }

        /** Mostly a play, sometimes one with a byte changed, added or cut off. */
        String randomText() {
            StringBuilder text = new StringBuilder("E");
            int things = random.nextInt(20);
            int parts = 0;
            for (int thing = 0; thing < things; thing++) {
                String next = randomThing(random.nextInt(10), parts);
                if (Model.isPlay(text + next)) {
                    text.append(next);
                    parts += next.charAt(0) == 'P' ? 1 : 0;
                }
            }
            if (random.nextInt(5) == 0) {
                spoil(text);
            }
            return text.toString();
        }

        String randomThing(int lot, int parts) {
            boolean backFull = random.nextInt(4) == 0;
            if (lot < 2) {
                return "D" + (char) ('m' + random.nextInt(6));
            }
            if (lot < 4) {
                return "F" + (char) ((backFull ? 'm' : 'a') + random.nextInt(backFull ? 6 : 18));
            }
            if (lot < 7) {
                return "P" + (1 + random.nextInt(9)) + random.nextInt(4);
            }
            return "L" + random.nextInt(Math.max(1, parts)) + random.nextInt(Math.max(1, parts));
        }

        void spoil(StringBuilder text) {
            String letters = "EDFPLamlnrsA0123456789:/\u0000\u00ff";
            char letter = letters.charAt(random.nextInt(letters.length()));
            int place = random.nextInt(text.length());
            switch (random.nextInt(3)) {
                case 0: text.setCharAt(place, letter); break;
                case 1: text.insert(place + 1, letter); break;
                default: text.setLength(place); break;
            }
        }

        Object[] argumentsOf(String name) {
            Class<?>[] types = real.get(name).getParameterTypes();
            Object[] values = new Object[types.length];
            for (int i = 0; i < types.length; i++) {
                if (types[i] == boolean.class) {
                    values[i] = random.nextBoolean();
                } else if (types[i] == long.class) {
                    values[i] = name.equals("judge") ? randomRow((int) values[0]) : random.nextLong();
                } else {
                    values[i] = randomNumber(name, i);
                }
            }
            return values;
        }

        int randomNumber(String name, int place) {
            int lot = random.nextInt(60);
            if (lot == 0) {
                return random.nextBoolean() ? Integer.MAX_VALUE : Integer.MIN_VALUE;
            }
            if (lot < 3) {
                return random.nextInt(80) - 20;
            }
            switch (name) {
                case "write": return "EDFPLmnoabr0123".charAt(random.nextInt(15));
                case "about": return random.nextInt(13);
                case "door": return random.nextInt(3);
                case "stool": return random.nextInt(4);
                case "load": return random.nextInt(6);
                case "shift": return place == 0 ? random.nextInt(4) : random.nextInt(18);
                case "enter":
                case "comes": return place == 0 ? random.nextInt(6) : random.nextInt(3);
                case "walk": return place == 0 ? random.nextInt(6) : random.nextInt(4);
                case "way": return place == 0 ? random.nextInt(6) : random.nextInt(18);
                case "part": return place == 0 ? random.nextInt(6) : random.nextInt(5);
                case "line": return place == 0 ? random.nextInt(6) : random.nextInt(4);
                case "place": return place == 0 ? random.nextInt(6) : random.nextInt(2);
                case "rests": return place < 2 ? random.nextInt(6) : random.nextInt(2);
                case "leftOut": return random.nextInt(2);
                case "judge": return 1 + random.nextInt(4);
                case "tread": return place == 0 ? random.nextInt(18) : random.nextInt(random.nextBoolean() ? 5 : 10);
                case "gives": return place == 0 ? random.nextInt(3) : random.nextInt(11);
                case "evenings": return 1 + random.nextInt(30);
                case "keep":
                case "again": return random.nextInt(2);
                default: return random.nextInt(6);
            }
        }

        long randomRow(int n) {
            if (random.nextInt(30) == 0) {
                return random.nextBoolean() ? random.nextLong() : -1;
            }
            long row = 0;
            for (int doing = 0; doing < n && doing < 5; doing++) {
                int kind = random.nextInt(20) == 0 ? random.nextInt(10) : 1 + random.nextInt(3);
                int first = kind == 3 && random.nextInt(10) != 0 ? 0 : random.nextInt(6);
                row = row * 1000 + kind * 100 + first * 10 + random.nextInt(kind == 1 ? 3 : kind == 2 ? 4 : 7);
            }
            return random.nextInt(40) == 0 ? row * 10 : row;
        }

        void call(String name, Object... given) throws Exception {
            Class<?>[] types = real.get(name).getParameterTypes();
            Object[] values = given;
            if (given.length != types.length) {
                values = argumentsOf(name);
            }
            String told = name + Arrays.toString(values);
            trace.add(told);
            Object due = plain.get(name).invoke(model, values);
            Object got;
            try {
                got = real.get(name).invoke(object, values);
            } catch (java.lang.reflect.InvocationTargetException thrown) {
                got = thrown.getCause();
            }
            long answer = ((Number) due).longValue();
            answers.merge(name + (answer >= -4 && answer < 0 ? " refused" : " taken"), 1, Integer::sum);
            if (!due.equals(got)) {
                same = false;
                wrong++;
                System.out.println("run " + number + ": " + told + " answered " + got + ", due is " + due);
                System.out.println("  after " + trace);
            }
        }
    }

    /** Where all are, what was said, where stools are, the minute. */
    private static final class State {
        int[] at = new int[0];
        int[] stools = new int[0];
        boolean[] said = new boolean[0];
        int minute = 0;

        State same() {
            State other = new State();
            other.at = at.clone();
            other.stools = stools.clone();
            other.said = said.clone();
            other.minute = minute;
            return other;
        }
    }

    /** The document's words, taken one by one. */
    private static final class Model {
        static final int OFF = -9;
        static final Map<String, Boolean> VIABLE = new HashMap<>();
        String text = "";
        List<Integer> doorCells = new ArrayList<>();
        List<int[]> cast = new ArrayList<>();
        List<int[]> script = new ArrayList<>();
        State now = new State();
        ArrayDeque<State> before = new ArrayDeque<>();
        State[] slots = new State[2];
        List<int[]> trodden = new ArrayList<>();
        BigInteger x = BigInteger.ZERO;

        // ---- the play

        static boolean isPlay(String text) {
            if (!text.matches("(?s)E(D[m-r]|F[a-r]|P[1-9][0-3]|L[0-9][0-9])*")) {
                return false;
            }
            String taken = "";
            int[] many = new int[128];
            for (int i = 1; i < text.length(); i += "DF".indexOf(text.charAt(i)) >= 0 ? 2 : 3) {
                char kind = text.charAt(i);
                many[kind]++;
                if (many[kind] > "...DDD.FFFF.PPPPPP.LLLLLL".chars().filter(c -> c == kind).count()) {
                    return false;
                }
                if (kind == 'D' || kind == 'F') {
                    if (taken.indexOf(text.charAt(i + 1)) >= 0) {
                        return false;
                    }
                    taken += text.charAt(i + 1);
                }
                if (kind == 'L' && (text.charAt(i + 1) == text.charAt(i + 2)
                        || text.charAt(i + 1) - '0' >= many['P'] || text.charAt(i + 2) - '0' >= many['P'])) {
                    return false;
                }
            }
            return true;
        }

        static boolean canBecome(String text, int more) {
            if (isPlay(text)) {
                return true;
            }
            if (more == 0) {
                return false;
            }
            for (char next : "EDFPLabcdefghijklmnopqr0123456789".toCharArray()) {
                if (canBecome(text + next, more - 1)) {
                    return true;
                }
            }
            return false;
        }

        public int write(int letter) {
            if (letter < 0 || letter > 255) {
                return -2;
            }
            if (text.length() == 60) {
                return -4;
            }
            text += (char) letter;
            return text.length();
        }

        public int wipe() {
            int length = text.length();
            text = "";
            return length;
        }

        public int fault() {
            for (int end = 1; end <= text.length(); end++) {
                if (!VIABLE.computeIfAbsent(text.substring(0, end), begun -> canBecome(begun, 2))) {
                    return end - 1;
                }
            }
            return isPlay(text) ? -9 : text.length();
        }

        public int play() {
            if (!isPlay(text)) {
                return -3;
            }
            doorCells = new ArrayList<>();
            cast = new ArrayList<>();
            script = new ArrayList<>();
            List<Integer> stools = new ArrayList<>();
            for (int i = 1; i < text.length(); ) {
                char kind = text.charAt(i);
                int one = text.charAt(i + 1);
                if (kind == 'D') {
                    doorCells.add(one - 'a');
                } else if (kind == 'F') {
                    stools.add(one - 'a');
                } else {
                    (kind == 'P' ? cast : script).add(new int[] {one - '0', text.charAt(i + 2) - '0'});
                }
                i += kind == 'D' || kind == 'F' ? 2 : 3;
            }
            now = new State();
            now.at = new int[cast.size()];
            Arrays.fill(now.at, OFF);
            now.said = new boolean[script.size()];
            now.stools = stools.stream().mapToInt(c -> c).toArray();
            before.clear();
            slots = new State[2];
            return 1000 * doorCells.size() + 100 * stools.size() + 10 * cast.size() + script.size();
        }

        public int about(int what) {
            int bits = 0;
            switch (what) {
                case 0: return doorCells.size();
                case 1: return now.stools.length;
                case 2: return cast.size();
                case 3: return script.size();
                case 4:
                    for (int p = 0; p < cast.size(); p++) {
                        bits |= now.at[p] == OFF ? 0 : 1 << p;
                    }
                    return bits;
                case 5:
                    for (int p = 0; p < cast.size(); p++) {
                        bits |= isSeen(now, p) ? 1 << p : 0;
                    }
                    return bits;
                case 6:
                    for (int l = 0; l < script.size(); l++) {
                        bits |= now.said[l] ? 1 << l : 0;
                    }
                    return bits;
                case 7:
                    for (int l = 0; l < script.size(); l++) {
                        bits |= isHeard(now, l) ? 1 << l : 0;
                    }
                    return bits;
                case 8:
                    for (int c = 0; c < 18; c++) {
                        bits |= isFree(now, c) ? 1 << c : 0;
                    }
                    return bits;
                case 9: return now.minute;
                case 10: return before.size();
                case 11: return trodden.size();
                case 12: return text.length();
                default: return -2;
            }
        }

        public int door(int door) {
            return noDoor(door) ? -1 : doorCells.get(door);
        }

        public int stool(int stool) {
            return noStool(stool) ? -1 : now.stools[stool];
        }

        public int part(int part, int what) {
            if (noPart(part)) {
                return -1;
            }
            int found = 0;
            switch (what) {
                case 0: return cast.get(part)[0];
                case 1: return cast.get(part)[1];
                case 2: return now.at[part];
                case 3:
                    for (int p = 0; p < cast.size(); p++) {
                        found |= p != part && haveSight(now, p, part) ? 1 << p : 0;
                    }
                    return found;
                case 4:
                    for (int c = 0; c < 18 && now.at[part] != OFF; c++) {
                        found += stepsTo(now, part, c) == OFF ? 0 : 1;
                    }
                    return found;
                default: return -2;
            }
        }

        public int line(int line, int what) {
            if (noLine(line)) {
                return -1;
            }
            switch (what) {
                case 0: return script.get(line)[0];
                case 1: return script.get(line)[1];
                case 2: return now.said[line] ? 1 : 0;
                case 3: return isHeard(now, line) ? 1 : 0;
                default: return -2;
            }
        }

        public int load(int column) {
            if (column < 0 || column > 5) {
                return -2;
            }
            int sum = 0;
            for (int p = 0; p < cast.size(); p++) {
                for (int row = 0; row < 3; row++) {
                    if (now.at[p] == 6 * row + column) {
                        sum += cast.get(p)[0] + (cast.get(p)[1] == 3 ? 2 : 0);
                    }
                }
            }
            return sum;
        }

        // ---- what the terms say

        boolean noDoor(int d) {
            return d < 0 || d >= doorCells.size();
        }

        boolean noStool(int f) {
            return f < 0 || f >= now.stools.length;
        }

        boolean noPart(int p) {
            return p < 0 || p >= cast.size();
        }

        boolean noLine(int l) {
            return l < 0 || l >= script.size();
        }

        boolean isFree(State s, int cell) {
            for (int c : s.at) {
                if (c == cell) {
                    return false;
                }
            }
            for (int c : s.stools) {
                if (c == cell) {
                    return false;
                }
            }
            return cell >= 0 && cell < 18;
        }

        boolean isGhost(int part) {
            return cast.get(part)[1] == 2;
        }

        /** The cells between two in line; null: they are not in line. */
        static List<Integer> between(int one, int other) {
            int r = one / 6, c = one % 6, toR = other / 6, toC = other % 6;
            if (!(r == toR || c == toC || r - toR == c - toC || r - toR == toC - c)) {
                return null;
            }
            List<Integer> cells = new ArrayList<>();
            while (true) {
                r += r < toR ? 1 : r > toR ? -1 : 0;
                c += c < toC ? 1 : c > toC ? -1 : 0;
                if (r == toR && c == toC) {
                    return cells;
                }
                cells.add(6 * r + c);
            }
        }

        boolean haveSight(State s, int one, int other) {
            if (s.at[one] == OFF || s.at[other] == OFF) {
                return false;
            }
            List<Integer> gap = between(s.at[one], s.at[other]);
            if (gap == null) {
                return false;
            }
            for (int stool : s.stools) {
                if (gap.contains(stool)) {
                    return false;
                }
            }
            for (int p = 0; p < cast.size(); p++) {
                if (!isGhost(p) && gap.contains(s.at[p])) {
                    return false;
                }
            }
            return true;
        }

        boolean isHeard(State s, int line) {
            return !s.said[line] && haveSight(s, script.get(line)[0], script.get(line)[1]);
        }

        int heardOf(State s, int part) {
            int many = 0;
            for (int l = 0; l < script.size(); l++) {
                boolean of = part == OFF || script.get(l)[0] == part || script.get(l)[1] == part;
                many += of && isHeard(s, l) ? 1 : 0;
            }
            return many;
        }

        boolean isSeen(State s, int part) {
            if (s.at[part] == OFF) {
                return false;
            }
            for (int p = 0; p < cast.size(); p++) {
                boolean before = s.at[p] != OFF && s.at[p] % 6 == s.at[part] % 6 && s.at[p] < s.at[part];
                if (p != part && before && !isGhost(p)) {
                    return false;
                }
            }
            return true;
        }

        int seenCount(State s) {
            int many = 0;
            for (int p = 0; p < cast.size(); p++) {
                many += isSeen(s, p) ? 1 : 0;
            }
            return many;
        }

        static int beside(int cell, int way) {
            int r = cell / 6 + (way == 2 ? -1 : way == 3 ? 1 : 0);
            int c = cell % 6 + (way == 0 ? -1 : way == 1 ? 1 : 0);
            return r < 0 || r > 2 || c < 0 || c > 5 ? OFF : 6 * r + c;
        }

        /** Steps from a cell to all others by cells that are not closed. */
        static int[] distances(int from, boolean[] closed) {
            int[] far = new int[18];
            Arrays.fill(far, OFF);
            far[from] = 0;
            ArrayDeque<Integer> queue = new ArrayDeque<>(List.of(from));
            while (!queue.isEmpty()) {
                int cell = queue.remove();
                for (int way = 0; way < 4; way++) {
                    int next = beside(cell, way);
                    if (next != OFF && far[next] == OFF && !closed[next]) {
                        far[next] = far[cell] + 1;
                        queue.add(next);
                    }
                }
            }
            return far;
        }

        int stepsTo(State s, int part, int cell) {
            boolean[] closed = new boolean[18];
            for (int c = 0; c < 18; c++) {
                closed[c] = cast.get(part)[1] == 1 || !isFree(s, c);
            }
            return distances(s.at[part], closed)[cell];
        }

        boolean entered(State s, int part, int door) {
            if (noPart(part) || noDoor(door) || s.at[part] != OFF || !isFree(s, doorCells.get(door))) {
                return false;
            }
            s.at[part] = doorCells.get(door);
            return true;
        }

        boolean walked(State s, int part, int way) {
            if (noPart(part) || way < 0 || way > 3 || s.at[part] == OFF || cast.get(part)[1] == 1) {
                return false;
            }
            int cell = beside(s.at[part], way);
            if (cell == OFF || !isFree(s, cell)) {
                return false;
            }
            s.at[part] = cell;
            return true;
        }

        boolean saidLine(State s, int line) {
            if (noLine(line) || !isHeard(s, line)) {
                return false;
            }
            s.said[line] = true;
            return true;
        }

        void act(State was) {
            before.addLast(was);
            if (before.size() > 14) {
                before.removeFirst();
            }
            now.minute++;
        }

        // ---- acts

        public int enter(int part, int door) {
            State was = now.same();
            if (noPart(part) || noDoor(door)) {
                return -1;
            }
            if (!entered(now, part, door)) {
                return -3;
            }
            act(was);
            return now.at[part];
        }

        public int walk(int part, int way) {
            State was = now.same();
            if (noPart(part)) {
                return -1;
            }
            if (way < 0 || way > 3) {
                return -2;
            }
            if (!walked(now, part, way)) {
                return -3;
            }
            act(was);
            return now.at[part];
        }

        public int say(int line) {
            State was = now.same();
            if (noLine(line)) {
                return -1;
            }
            if (!saidLine(now, line)) {
                return -3;
            }
            act(was);
            int many = 0;
            for (boolean said : now.said) {
                many += said ? 1 : 0;
            }
            return many;
        }

        public int shift(int stool, int cell) {
            if (noStool(stool) || cell < 0 || cell > 17) {
                return -1;
            }
            if (!isFree(now, cell) || doorCells.contains(cell)) {
                return -3;
            }
            State was = now.same();
            now.stools[stool] = cell;
            act(was);
            return was.stools[stool];
        }

        public int undo() {
            if (before.isEmpty()) {
                return -3;
            }
            now = before.removeLast();
            return before.size();
        }

        // ---- ways, places

        public int way(int part, int cell) {
            if (noPart(part) || cell < 0 || cell > 17) {
                return -1;
            }
            return now.at[part] == OFF ? -3 : stepsTo(now, part, cell);
        }

        public int place(int part, int what) {
            if (noPart(part)) {
                return -1;
            }
            if (what != 0 && what != 1) {
                return -2;
            }
            if (now.at[part] == OFF) {
                return -3;
            }
            int best = OFF, most = -1, shortest = -1;
            for (int c = 17; c >= 0; c--) {
                int steps = stepsTo(now, part, c);
                State there = now.same();
                there.at[part] = c;
                if (steps != OFF) {
                    int heard = heardOf(there, part);
                    if (heard > most || heard == most && steps <= shortest) {
                        best = c;
                        most = heard;
                        shortest = steps;
                    }
                }
            }
            return what == 0 ? best : most;
        }

        /** The steps by which a part has come; OFF: it does not come. */
        int come(State s, int part, int door) {
            if (!entered(s, part, door)) {
                return OFF;
            }
            int best = OFF, shortest = 99;
            for (int c = 0; c < 18; c++) {
                int steps = stepsTo(s, part, c);
                State there = s.same();
                there.at[part] = c;
                if (steps != OFF && isSeen(there, part) && steps < shortest) {
                    best = c;
                    shortest = steps;
                }
            }
            if (best == OFF) {
                return 0;
            }
            s.at[part] = best;
            return shortest;
        }

        public int comes(int part, int door) {
            if (noPart(part) || noDoor(door)) {
                return -1;
            }
            if (now.at[part] != OFF) {
                return -3;
            }
            State later = now.same();
            come(later, part, door);
            return later.at[part];
        }

        static void allOrders(List<Integer> left, List<Integer> begun, List<List<Integer>> found) {
            if (left.isEmpty()) {
                found.add(new ArrayList<>(begun));
            }
            for (int next : left) {
                List<Integer> rest = new ArrayList<>(left);
                rest.remove((Integer) next);
                begun.add(next);
                allOrders(rest, begun, found);
                begun.remove(begun.size() - 1);
            }
        }

        public int order(boolean order) {
            List<Integer> off = new ArrayList<>();
            for (int p = cast.size() - 1; p >= 0; p--) {
                if (now.at[p] == OFF) {
                    off.add(p);
                }
            }
            List<List<Integer>> orders = new ArrayList<>();
            allOrders(off, new ArrayList<>(), orders);
            int most = -1, least = 0;
            for (List<Integer> one : orders) {
                State later = now.same();
                int number = 0;
                for (int part : one) {
                    number = 10 * number + part + 1;
                    for (int d = 0; d < doorCells.size() && later.at[part] == OFF; d++) {
                        come(later, part, d);
                    }
                }
                int heard = heardOf(later, OFF);
                if (heard > most || heard == most && number < least) {
                    most = heard;
                    least = number;
                }
            }
            return order ? least : most;
        }

        public int bars(int line) {
            if (noLine(line)) {
                return -1;
            }
            int one = now.at[script.get(line)[0]], other = now.at[script.get(line)[1]];
            List<Integer> gap = one == OFF || other == OFF ? null : between(one, other);
            if (gap == null) {
                return -9;
            }
            int bits = 0;
            for (int cell : gap) {
                for (int stool : now.stools) {
                    if (stool == cell) {
                        return -9;
                    }
                }
                for (int p = 0; p < cast.size(); p++) {
                    bits |= now.at[p] == cell && !isGhost(p) ? 1 << p : 0;
                }
            }
            return bits;
        }

        public int leftOut(int what) {
            if (what != 0 && what != 1) {
                return -2;
            }
            int which = -9, most = -9;
            for (int p = 0; p < cast.size(); p++) {
                State without = now.same();
                without.at[p] = OFF;
                if (now.at[p] != OFF && heardOf(without, OFF) > most) {
                    which = p;
                    most = heardOf(without, OFF);
                }
            }
            return what == 0 ? which : most;
        }

        public int judge(int n, long row) {
            if (n < 1 || n > 4 || row < 0 || Long.toString(row).length() > 3 * n) {
                return -2;
            }
            String figures = String.format("%0" + 3 * n + "d", row);
            State later = now.same();
            for (int i = 0; i < n; i++) {
                int first = figures.charAt(3 * i + 1) - '0', second = figures.charAt(3 * i + 2) - '0';
                char kind = figures.charAt(3 * i);
                boolean can = kind == '1' && entered(later, first, second)
                    || kind == '2' && walked(later, first, second)
                    || kind == '3' && first == 0 && saidLine(later, second);
                if (!can) {
                    return i;
                }
            }
            return -9;
        }

        static int fraction(BigInteger above, BigInteger below, boolean upper) {
            BigInteger common = above.gcd(below);
            return (upper ? above : below).divide(common).intValueExact();
        }

        public int share(int part, boolean upper) {
            if (noPart(part)) {
                return -1;
            }
            List<Integer> on = new ArrayList<>();
            for (int p = 0; p < cast.size(); p++) {
                if (now.at[p] != OFF) {
                    on.add(p);
                }
            }
            List<List<Integer>> orders = new ArrayList<>();
            allOrders(on, new ArrayList<>(), orders);
            long sum = 0;
            for (List<Integer> order : orders) {
                State there = now.same();
                Arrays.fill(there.at, OFF);
                for (int comer : order) {
                    int were = heardOf(there, OFF);
                    there.at[comer] = now.at[comer];
                    sum += comer == part ? heardOf(there, OFF) - were : 0;
                }
            }
            return fraction(BigInteger.valueOf(sum), BigInteger.valueOf(orders.size()), upper);
        }

        // ---- doors

        public int tread(int cell, int m) {
            if (cell < 0 || cell > 17) {
                return -1;
            }
            if (m < 0 || m > 9) {
                return -2;
            }
            if (trodden.size() == 6) {
                return -4;
            }
            trodden.add(new int[] {cell, m});
            return trodden.size();
        }

        public int untread() {
            int were = trodden.size();
            trodden.clear();
            return were;
        }

        public int doors() {
            boolean[] closed = new boolean[18];
            for (int stool : now.stools) {
                closed[stool] = true;
            }
            int bits = 0;
            for (int d = 0; d < doorCells.size(); d++) {
                int[] far = distances(doorCells.get(d), closed);
                boolean so = trodden.stream().allMatch(t -> far[t[0]] == t[1]);
                bits |= so ? 1 << d : 0;
            }
            return bits;
        }

        // ---- rests, chances

        int[] worths(int one, int other, int d, int e) {
            State later = now.same();
            int steps = come(later, one, d), otherSteps = come(later, other, e);
            return new int[] {
                later.at[one] == OFF ? 0 : isSeen(later, one) ? 9 - steps : 1,
                later.at[other] == OFF ? 0 : isSeen(later, other) ? 9 - otherSteps : 1};
        }

        public int rests(int part, int other, int what) {
            if (noPart(part) || noPart(other)) {
                return -1;
            }
            if (part == other || what != 0 && what != 1) {
                return -2;
            }
            if (now.at[part] != OFF || now.at[other] != OFF) {
                return -3;
            }
            List<Integer> found = new ArrayList<>();
            for (int d = 0; d < doorCells.size(); d++) {
                for (int e = 0; e < doorCells.size(); e++) {
                    int[] have = worths(part, other, d, e);
                    boolean rest = true;
                    for (int f = 0; f < doorCells.size(); f++) {
                        rest &= worths(part, other, f, e)[0] <= have[0];
                        rest &= worths(part, other, d, f)[1] <= have[1];
                    }
                    if (rest) {
                        found.add(10 * d + e);
                    }
                }
            }
            return what == 0 ? found.size() : found.isEmpty() ? -9 : found.get(0);
        }

        public int gives(int m, int x, boolean upper) {
            if (m < 0 || m > 6 || x < 0 || x > 10) {
                return -2;
            }
            int cases = 0, all = 0;
            for (int lots = 0; lots < 64; lots++) {
                int weight = 1, giving = 0;
                for (int column = 0; column < 6; column++) {
                    boolean gives = (lots >> column & 1) == 1;
                    boolean heavy = load(column) >= 10;
                    giving += gives ? 1 : 0;
                    weight *= gives ? heavy ? x : 0 : heavy ? 10 - x : 10;
                }
                all += weight;
                cases += giving >= m ? weight : 0;
            }
            return fraction(BigInteger.valueOf(cases), BigInteger.valueOf(all), upper);
        }

        public long seed(long v) {
            long was = x.longValue();
            x = BigInteger.valueOf(v);
            return was;
        }

        public int evenings(int m) {
            if (m < 1 || m > 30) {
                return -2;
            }
            State later = now.same();
            BigInteger all = BigInteger.ONE.shiftLeft(64);
            int together = 0;
            for (int i = 0; i < m; i++) {
                x = x.multiply(new BigInteger("6364136223846793005")).add(new BigInteger("1442695040888963407")).mod(all);
                int lot = x.shiftRight(33).mod(BigInteger.valueOf(42)).intValue();
                if (lot <= 23) {
                    walked(later, lot / 4, lot % 4);
                } else {
                    entered(later, (lot - 24) / 3, lot % 3);
                }
                together += seenCount(later);
            }
            return together;
        }

        // ---- slots

        public int keep(int slot) {
            if (slot != 0 && slot != 1) {
                return -1;
            }
            slots[slot] = now.same();
            return now.minute;
        }

        public int again(int slot) {
            if (slot != 0 && slot != 1) {
                return -1;
            }
            if (slots[slot] == null) {
                return -3;
            }
            now = slots[slot].same();
            before.clear();
            return now.minute;
        }
    }
}
