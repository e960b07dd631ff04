import java.util.ArrayList;
import java.util.Arrays;
import java.util.Collections;
import java.util.HashMap;
import java.util.List;
import java.util.Map;
import java.util.regex.Matcher;
import java.util.regex.Pattern;

/** The document told once more, as trees and lists and with no thought of cost, to compare answers with. */
final class Model {
    private static final List<String> SELECTORS = List.of("all", "leads", "follows", "heads", "sides", "north", "east",
        "south", "west", "centres", "ends", "front", "rear");
    private static final List<String> ATOMS = List.of("stay", "fwd", "back", "left", "right", "tl", "tr");
    private static final Map<String, String> EXCHANGED = Map.of("stay", "stay", "fwd", "back", "back", "fwd",
        "left", "right", "right", "left", "tl", "tr", "tr", "tl");

    /** A step is a beat, an older call or a bracket; each knows what it has and leaves the rest null. */
    private static final class Step {
        List<String[]> parts;
        Call old;
        int times;
        List<Step> within;
    }

    private static final class Call {
        String name;
        List<Step> steps;
        boolean allowed;

        int beats() {
            return beatsOf(steps);
        }

        int depth() {
            return depthOf(steps);
        }

        private static int beatsOf(List<Step> steps) {
            int sum = 0;
            for (Step s : steps) {
                sum += s.parts != null ? 1 : s.old != null ? s.old.beats() : s.times * beatsOf(s.within);
            }
            return sum;
        }

        private static int depthOf(List<Step> steps) {
            int depth = 1;
            for (Step s : steps) {
                depth = Math.max(depth, s.parts != null ? 1 : s.old != null ? s.old.depth() + 1 : depthOf(s.within));
            }
            return depth;
        }
    }

    private static final class Dancer {
        int x;
        int y;
        int facing;

        Dancer(int x, int y, int facing) {
            this.x = x;
            this.y = y;
            this.facing = facing;
        }
    }

    private static final class Fault extends Exception {
        private static final long serialVersionUID = 1;
        final int at;

        Fault(int at) {
            this.at = at;
        }
    }

    private static final class Clash extends Exception {
        private static final long serialVersionUID = 1;
        final int kind;

        Clash(int kind) {
            this.kind = kind;
        }
    }

    private String text = "";
    private final List<Call> calls = new ArrayList<>();
    private List<Dancer> floor = homeTurned(0);
    /** For each call danced, the floors before it and behind each of its beats. */
    private final List<List<List<Dancer>>> journal = new ArrayList<>();
    private int fault = -1;
    private int clash;
    private List<Integer> way = new ArrayList<>();

    private static List<Dancer> homeTurned(int turns) {
        int[][] home = {{4, 3, 0}, {5, 3, 0}, {6, 4, 3}, {6, 5, 3}, {5, 6, 2}, {4, 6, 2}, {3, 5, 1}, {3, 4, 1}};
        List<Dancer> all = new ArrayList<>();
        for (int[] h : home) {
            all.add(new Dancer(h[0], h[1], (h[2] + turns) % 4));
        }
        return all;
    }

    private static String told(List<Dancer> floor) {
        StringBuilder all = new StringBuilder();
        for (Dancer d : floor) {
            all.append(d.x).append(d.y).append(d.facing).append(' ');
        }
        return all.toString();
    }

    // ---- the text and its language

    boolean write(long characters) {
        StringBuilder added = new StringBuilder();
        for (int i = 0; i < 8; i++) {
            char c = (char) (characters >>> 8 * i & 255);
            if (c != 0) {
                added.append(c);
            }
        }
        if (!added.toString().chars().allMatch(c -> c >= 32 && c <= 126) || text.length() + added.length() > 100) {
            return false;
        }
        text += added;
        return true;
    }

    int wipe() {
        int had = text.length();
        text = "";
        return had;
    }

    int define() {
        Call call;
        try {
            call = new Parser().call();
            if (call.beats() > 16 || call.depth() > 6) {
                throw new Fault(text.length());
            }
        } catch (Fault f) {
            fault = f.at;
            throw new IllegalArgumentException();
        }
        fault = -1;
        if (calls.size() == 12) {
            throw new IllegalStateException();
        }
        calls.add(call);
        text = "";
        return calls.size() - 1;
    }

    /** Goes down the grammar's rules; where a token does not fit, or the text ends, is the fault. */
    private final class Parser {
        private final List<String> tokens = new ArrayList<>();
        private final List<Integer> starts = new ArrayList<>();
        private int at;

        Parser() {
            Matcher m = Pattern.compile("[a-z]+|[0-9]+|[^ ]").matcher(text);
            while (m.find()) {
                tokens.add(m.group());
                starts.add(m.start());
            }
        }

        Call call() throws Fault {
            Call call = new Call();
            call.name = take("[a-z]{1,8}");
            if (SELECTORS.contains(call.name) || ATOMS.contains(call.name) || named(call.name) != null) {
                throw new Fault(starts.get(at - 1));
            }
            take("=");
            call.steps = steps(0);
            if (at < tokens.size()) {
                throw new Fault(starts.get(at));
            }
            return call;
        }

        private List<Step> steps(int open) throws Fault {
            List<Step> steps = new ArrayList<>();
            steps.add(step(open));
            while (peek().equals(";")) {
                at++;
                steps.add(step(open));
            }
            return steps;
        }

        private Step step(int open) throws Fault {
            Step step = new Step();
            if (open < 3 && peek().matches("[2-4]")) {
                step.times = take(".").charAt(0) - '0';
                take("\\(");
                step.within = steps(open + 1);
                take("\\)");
            } else if (named(peek()) != null) {
                step.old = named(take("[a-z]+"));
            } else {
                step.parts = new ArrayList<>();
                step.parts.add(part());
                while (peek().equals(",")) {
                    at++;
                    step.parts.add(part());
                }
            }
            return step;
        }

        private String[] part() throws Fault {
            return new String[] {take(String.join("|", SELECTORS)), take(String.join("|", ATOMS))};
        }

        private String peek() {
            return at < tokens.size() ? tokens.get(at) : "";
        }

        private String take(String pattern) throws Fault {
            if (at == tokens.size()) {
                throw new Fault(text.length());
            }
            if (!tokens.get(at).matches(pattern)) {
                throw new Fault(starts.get(at));
            }
            at++;
            return tokens.get(at - 1);
        }
    }

    private Call named(String name) {
        for (Call c : calls) {
            if (c.name.equals(name)) {
                return c;
            }
        }
        return null;
    }

    private Call call(int number) {
        if (number < 0 || number >= calls.size()) {
            throw new IllegalArgumentException();
        }
        return calls.get(number);
    }

    int fault() {
        return fault;
    }

    int beats(int call) {
        return call(call).beats();
    }

    // ---- selectors

    private static List<Boolean> chosen(String selector, List<Dancer> floor) {
        List<Boolean> chosen = new ArrayList<>();
        for (int i = 0; i < 8; i++) {
            chosen.add(isChosen(selector, i, floor));
        }
        return chosen;
    }

    private static boolean isChosen(String selector, int i, List<Dancer> floor) {
        Dancer d = floor.get(i);
        switch (selector) {
            case "all": return true;
            case "leads": return i % 2 == 0;
            case "follows": return i % 2 == 1;
            case "heads": return i % 4 < 2;
            case "sides": return i % 4 >= 2;
            case "north": return d.facing == 0;
            case "east": return d.facing == 1;
            case "south": return d.facing == 2;
            case "west": return d.facing == 3;
            case "centres": return byDistance(floor).indexOf(i) < 4;
            case "ends": return byDistance(floor).indexOf(i) >= 4;
            case "front": return seesNobody(d, d.facing, floor);
            default: return seesNobody(d, (d.facing + 2) % 4, floor);
        }
    }

    private static List<Integer> byDistance(List<Dancer> floor) {
        int sumX = floor.stream().mapToInt(d -> d.x).sum();
        int sumY = floor.stream().mapToInt(d -> d.y).sum();
        List<Integer> all = new ArrayList<>(List.of(0, 1, 2, 3, 4, 5, 6, 7));
        all.sort((a, b) -> {
            int nearer = Integer.compare(distance(floor.get(a), sumX, sumY), distance(floor.get(b), sumX, sumY));
            return nearer != 0 ? nearer : Integer.compare(spot(floor.get(a)), spot(floor.get(b)));
        });
        return all;
    }

    private static int distance(Dancer d, int sumX, int sumY) {
        return (8 * d.x - sumX) * (8 * d.x - sumX) + (8 * d.y - sumY) * (8 * d.y - sumY);
    }

    private static int spot(Dancer d) {
        return 10 * d.y + d.x;
    }

    /** Walks spot by spot to the floor's edge. */
    private static boolean seesNobody(Dancer d, int direction, List<Dancer> floor) {
        Dancer at = ahead(d, direction);
        while (isOnFloor(at)) {
            for (Dancer other : floor) {
                if (spot(other) == spot(at)) {
                    return false;
                }
            }
            at = ahead(at, direction);
        }
        return true;
    }

    private static Dancer ahead(Dancer d, int direction) {
        int[][] strides = {{0, 1}, {1, 0}, {0, -1}, {-1, 0}};
        return new Dancer(d.x + strides[direction][0], d.y + strides[direction][1], d.facing);
    }

    private static boolean isOnFloor(Dancer d) {
        return d.x >= 0 && d.x <= 9 && d.y >= 0 && d.y <= 9;
    }

    // ---- dancing

    private static Dancer done(Dancer d, String atom) {
        switch (atom) {
            case "fwd": return ahead(d, d.facing);
            case "right": return ahead(d, (d.facing + 1) % 4);
            case "back": return ahead(d, (d.facing + 2) % 4);
            case "left": return ahead(d, (d.facing + 3) % 4);
            case "tr": return new Dancer(d.x, d.y, (d.facing + 1) % 4);
            case "tl": return new Dancer(d.x, d.y, (d.facing + 3) % 4);
            default: return d;
        }
    }

    private static List<Dancer> beat(List<Dancer> before, List<String> atoms) throws Clash {
        List<Dancer> behind = new ArrayList<>();
        for (int i = 0; i < 8; i++) {
            behind.add(done(before.get(i), atoms.get(i)));
        }
        if (!behind.stream().allMatch(Model::isOnFloor)) {
            throw new Clash(1);
        }
        if (behind.stream().map(Model::spot).distinct().count() < 8) {
            throw new Clash(2);
        }
        for (int a = 0; a < 8; a++) {
            for (int b = 0; b < a; b++) {
                Dancer p = before.get(a);
                Dancer q = before.get(b);
                if (spot(behind.get(a)) == spot(q) && spot(behind.get(b)) == spot(p)) {
                    boolean faces = spot(done(p, "fwd")) == spot(q) && spot(done(q, "fwd")) == spot(p);
                    boolean backs = spot(done(p, "back")) == spot(q) && spot(done(q, "back")) == spot(p);
                    if (!faces && !backs) {
                        throw new Clash(3);
                    }
                }
            }
        }
        return behind;
    }

    private static List<String> atoms(List<String[]> parts, Map<String, List<Boolean>> taken) {
        List<String> atoms = new ArrayList<>();
        for (int i = 0; i < 8; i++) {
            String atom = "stay";
            for (int p = parts.size() - 1; p >= 0; p--) {
                if (taken.get(parts.get(p)[0]).get(i)) {
                    atom = parts.get(p)[1];
                }
            }
            atoms.add(atom);
        }
        return atoms;
    }

    private static Map<String, List<Boolean>> take(List<Dancer> floor) {
        Map<String, List<Boolean>> taken = new HashMap<>();
        for (String s : SELECTORS) {
            taken.put(s, chosen(s, floor));
        }
        return taken;
    }

    private static void forward(Call call, List<List<Dancer>> floors) throws Clash {
        forward(call.steps, take(floors.get(floors.size() - 1)), floors);
    }

    private static void forward(List<Step> steps, Map<String, List<Boolean>> taken, List<List<Dancer>> floors) throws Clash {
        for (Step s : steps) {
            if (s.parts != null) {
                floors.add(beat(floors.get(floors.size() - 1), atoms(s.parts, taken)));
            } else if (s.old != null) {
                forward(s.old, floors);
            } else {
                for (int i = 0; i < s.times; i++) {
                    forward(s.within, taken, floors);
                }
            }
        }
    }

    private static void flatten(List<Step> steps, List<List<String[]>> beats) {
        for (Step s : steps) {
            if (s.parts != null) {
                beats.add(s.parts);
            } else if (s.old != null) {
                flatten(s.old.steps, beats);
            } else {
                for (int i = 0; i < s.times; i++) {
                    flatten(s.within, beats);
                }
            }
        }
    }

    private static void reversed(Call call, List<List<Dancer>> floors) throws Clash {
        Map<String, List<Boolean>> taken = take(floors.get(0));
        List<List<String[]>> beats = new ArrayList<>();
        flatten(call.steps, beats);
        Collections.reverse(beats);
        for (List<String[]> parts : beats) {
            List<String> atoms = atoms(parts, taken);
            atoms.replaceAll(EXCHANGED::get);
            floors.add(beat(floors.get(floors.size() - 1), atoms));
        }
    }

    private int perform(int number, boolean back) {
        Call call = call(number);
        if (journal.size() == 24) {
            throw new IllegalStateException();
        }
        List<List<Dancer>> floors = new ArrayList<>(List.of(floor));
        try {
            if (back) {
                reversed(call, floors);
            } else {
                forward(call, floors);
            }
        } catch (Clash c) {
            clash = 10 * floors.size() + c.kind;
            throw new IllegalStateException();
        }
        clash = 0;
        journal.add(floors);
        floor = floors.get(floors.size() - 1);
        return floors.size() - 1;
    }

    int dance(int call) {
        return perform(call, false);
    }

    int backward(int call) {
        return perform(call, true);
    }

    int clash() {
        return clash;
    }

    int undo() {
        if (journal.isEmpty()) {
            throw new IllegalStateException();
        }
        List<List<Dancer>> last = journal.remove(journal.size() - 1);
        floor = last.get(0);
        return last.size() - 1;
    }

    int home() {
        int had = journal.size();
        journal.clear();
        floor = homeTurned(0);
        return had;
    }

    // ---- what is told

    private static void checkDancer(int dancer) {
        if (dancer < 0 || dancer > 7) {
            throw new IllegalArgumentException();
        }
    }

    int where(int dancer, int what) {
        checkDancer(dancer);
        if (what < 0 || what > 2) {
            throw new IllegalArgumentException();
        }
        Dancer d = floor.get(dancer);
        return what == 0 ? d.x : what == 1 ? d.y : d.facing;
    }

    int stood(int beat, int dancer) {
        checkDancer(dancer);
        if (journal.isEmpty() || beat < 0 || beat >= journal.get(journal.size() - 1).size()) {
            throw new IndexOutOfBoundsException();
        }
        return spot(journal.get(journal.size() - 1).get(beat).get(dancer));
    }

    boolean select(int selector, int dancer) {
        if (selector < 0 || selector > 12) {
            throw new IllegalArgumentException();
        }
        checkDancer(dancer);
        return isChosen(SELECTORS.get(selector), dancer, floor);
    }

    /** Lays each form on each spot of the floor. */
    int shape() {
        String[][] forms = {
            {"1", "oooooooo"}, {"1", "o", "o", "o", "o", "o", "o", "o", "o"},
            {"2", "oooo", "oooo"}, {"2", "oo", "oo", "oo", "oo"},
            {"3", ".oo.", "o..o", "o..o", ".oo."}, {"4", "ooo", "o.o", "ooo"}};
        for (String[] form : forms) {
            for (int x = 0; x < 10; x++) {
                for (int y = 0; y < 10; y++) {
                    if (fits(form, x, y)) {
                        return Integer.parseInt(form[0]);
                    }
                }
            }
        }
        return 0;
    }

    private boolean fits(String[] form, int x, int y) {
        for (Dancer d : floor) {
            int row = d.y - y + 1;
            int column = d.x - x;
            if (row < 1 || row >= form.length || column < 0 || column >= form[row].length() || form[row].charAt(column) != 'o') {
                return false;
            }
        }
        return true;
    }

    // ---- the way home

    void allow(int call, boolean yes) {
        Call chosen = call(call);
        if (calls.stream().filter(c -> c != chosen && c.allowed).count() >= 5) {
            throw new IllegalStateException();
        }
        chosen.allowed = yes;
    }

    int resolve() {
        for (int length = 0; length <= 4; length++) {
            Integer[] row = new Integer[length];
            if (finish(row, 0, floor)) {
                way = Arrays.asList(row);
                return length;
            }
        }
        way = new ArrayList<>();
        return -1;
    }

    private boolean finish(Integer[] row, int at, List<Dancer> from) {
        if (at == row.length) {
            return told(from).equals(told(homeTurned(0)));
        }
        for (int i = 0; i < calls.size(); i++) {
            if (calls.get(i).allowed) {
                row[at] = i;
                List<Dancer> behind = behind(calls.get(i), from);
                if (behind != null && finish(row, at + 1, behind)) {
                    return true;
                }
            }
        }
        return false;
    }

    /** Where all stand behind a call, or null if it fails. */
    private static List<Dancer> behind(Call call, List<Dancer> from) {
        List<List<Dancer>> floors = new ArrayList<>(List.of(from));
        try {
            forward(call, floors);
        } catch (Clash c) {
            return null;
        }
        return floors.get(floors.size() - 1);
    }

    int way(int i) {
        if (i < 0 || i >= way.size()) {
            throw new IndexOutOfBoundsException();
        }
        return way.get(i);
    }

    boolean same(int a, int b) {
        Call first = call(a);
        Call second = call(b);
        boolean same = true;
        for (int turns = 0; turns < 4; turns++) {
            List<Dancer> one = behind(first, homeTurned(turns));
            List<Dancer> other = behind(second, homeTurned(turns));
            same &= one == null || other == null ? one == other : told(one).equals(told(other));
        }
        return same;
    }
}
