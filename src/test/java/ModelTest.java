import java.util.ArrayList;
import java.util.List;
import java.util.Random;
import java.util.TreeMap;

/** Random runs of calls, the same each time, whose answers must be those of the model. */
public final class ModelTest {
    private static final int RUNS = 1500;
    private static final int CALLS = 512;
    private static final String[] SELECTORS = {"all", "leads", "follows", "heads", "sides", "north", "east", "south",
        "west", "centres", "ends", "front", "rear"};
    private static final String[] ATOMS = {"stay", "fwd", "back", "left", "right", "tl", "tr"};
    private static final String[] STRAYS = {"=", ";", ",", "(", ")", " ", "2", "3", "5", "11", ".", "#", "A", "all", "fwd",
        "nobody", "verylongname", "a", "2(", "rear tl"};

    private final Checks checks = new Checks();
    private final TreeMap<String, Integer> seen = new TreeMap<>();
    private Random random;
    private FigureCaller x;
    private Model model;
    private List<String> names;
    private List<String> story;
    private int used;
    private boolean differs;

    public static void main(String[] args) {
        ModelTest test = new ModelTest();
        for (int run = 0; run < RUNS; run++) {
            test.run(run);
        }
        test.checkThatAllHappened();
        test.checks.end();
    }

    private void run(int seed) {
        random = new Random(seed);
        x = new FigureCaller();
        model = new Model();
        names = new ArrayList<>();
        story = new ArrayList<>();
        used = 0;
        differs = false;
        // Some runs live by turns and small steps, which are what the way home is found by.
        boolean gentle = random.nextInt(3) == 0;
        if (gentle) {
            for (String text : new String[] {"r=all tr", "l=all tl", "out=all back", "in=all fwd", "h=heads fwd", "s=sides back"}) {
                write(text);
                define();
                allow(names.size() - 1, random.nextInt(4) > 0);
            }
        }
        while (used < CALLS && !differs) {
            act(gentle);
        }
    }

    private void act(boolean gentle) {
        int dice = random.nextInt(100);
        int call = number();
        int dancer = random.nextInt(20) == 0 ? random.nextInt(12) - 2 : random.nextInt(8);
        if (dice < (gentle ? 3 : 12)) {
            write(random.nextInt(4) == 0 ? spoilt() : text(0));
            define();
            if (random.nextInt(2) == 0) {
                compare("fault", "fault()", Checks.answer(() -> x.fault()), Checks.answer(() -> model.fault()));
            }
            compare("wipe", "wipe()", Checks.answer(() -> x.wipe()), Checks.answer(() -> model.wipe()));
        } else if (dice < 40) {
            compare("dance", "dance(" + call + ")", Checks.answer(() -> x.dance(call)), Checks.answer(() -> model.dance(call)));
            look();
        } else if (dice < 55) {
            compare("backward", "backward(" + call + ")", Checks.answer(() -> x.backward(call)), Checks.answer(() -> model.backward(call)));
            look();
        } else if (dice < 60) {
            compare("undo", "undo()", Checks.answer(() -> x.undo()), Checks.answer(() -> model.undo()));
            look();
        } else if (dice < (gentle ? 64 : 61)) {
            compare("home", "home()", Checks.answer(() -> x.home()), Checks.answer(() -> model.home()));
        } else if (dice < 67) {
            int beat = random.nextInt(random.nextInt(4) == 0 ? 20 : 4) - 1;
            compare("stood", "stood(" + beat + ", " + dancer + ")", Checks.answer(() -> x.stood(beat, dancer)),
                Checks.answer(() -> model.stood(beat, dancer)));
        } else if (dice < 75) {
            int selector = random.nextInt(15) - 1;
            compare("select", "select(" + selector + ", " + dancer + ")", Checks.answer(() -> x.select(selector, dancer)),
                Checks.answer(() -> model.select(selector, dancer)));
        } else if (dice < 79) {
            int what = random.nextInt(5) - 1;
            compare("where", "where(" + dancer + ", " + what + ")", Checks.answer(() -> x.where(dancer, what)),
                Checks.answer(() -> model.where(dancer, what)));
        } else if (dice < 81) {
            compare("beats", "beats(" + call + ")", Checks.answer(() -> x.beats(call)), Checks.answer(() -> model.beats(call)));
        } else if (dice < 88) {
            allow(call, random.nextInt(3) > 0);
        } else if (dice < (gentle ? 93 : 89)) {
            resolve();
        } else if (dice < 96) {
            int other = number();
            compare("same", "same(" + call + ", " + other + ")", Checks.answer(() -> x.same(call, other)),
                Checks.answer(() -> model.same(call, other)));
        } else {
            long bytes = random.nextLong() & random.nextLong() & (random.nextBoolean() ? 0x7F7F7F7F7F7F7F7FL : 0x3F00003F3FL);
            compare("write", "write(" + bytes + ")", Checks.answer(() -> x.write(bytes)), Checks.answer(() -> model.write(bytes)));
        }
    }

    private int number() {
        return random.nextInt(30) == 0 || names.isEmpty() ? random.nextInt(16) - 2 : random.nextInt(names.size());
    }

    private void write(String text) {
        compare("wipe", "wipe()", Checks.answer(() -> x.wipe()), Checks.answer(() -> model.wipe()));
        for (int i = 0; i < text.length(); i += 8) {
            long bytes = Checks.packed(text.substring(i, Math.min(i + 8, text.length())));
            compare("write", "write(" + bytes + ")", Checks.answer(() -> x.write(bytes)), Checks.answer(() -> model.write(bytes)));
        }
        story.add("  the text was " + text);
    }

    private void define() {
        String got = Checks.answer(() -> x.define());
        compare("define", "define()", got, Checks.answer(() -> model.define()));
        if (!got.startsWith("throws.")) {
            String told = story.get(story.size() - 2).substring("  the text was ".length());
            names.add(told.substring(0, told.indexOf('=')).trim());
        }
    }

    private void allow(int call, boolean yes) {
        compare("allow", "allow(" + call + ", " + yes + ")", Checks.answer(() -> {
            x.allow(call, yes);
            return "done";
        }), Checks.answer(() -> {
            model.allow(call, yes);
            return "done";
        }));
    }

    private void look() {
        compare("clash", "clash()", Checks.answer(() -> x.clash()), Checks.answer(() -> model.clash()));
        if (random.nextInt(4) == 0) {
            compare("shape", "shape()", Checks.answer(() -> x.shape()), Checks.answer(() -> model.shape()));
        }
        if (random.nextInt(4) == 0) {
            for (int d = 0; d < 8; d++) {
                for (int w = 0; w < 3; w++) {
                    int dancer = d;
                    int what = w;
                    compare("where", "where(" + d + ", " + w + ")", Checks.answer(() -> x.where(dancer, what)),
                        Checks.answer(() -> model.where(dancer, what)));
                }
            }
        }
    }

    private void resolve() {
        compare("resolve", "resolve()", Checks.answer(() -> x.resolve()), Checks.answer(() -> model.resolve()));
        for (int i = -1; i < 5; i++) {
            int at = i;
            compare("way", "way(" + i + ")", Checks.answer(() -> x.way(at)), Checks.answer(() -> model.way(at)));
        }
    }

    private String text(int open) {
        StringBuilder text = new StringBuilder();
        if (open == 0) {
            text.append(name()).append('=');
        }
        int steps = 1 + random.nextInt(open == 0 ? 3 : 2);
        for (int i = 0; i < steps; i++) {
            text.append(i == 0 ? "" : ";").append(random.nextInt(6) == 0 ? " " : "").append(step(open));
        }
        return text.toString();
    }

    private String step(int open) {
        int dice = random.nextInt(10);
        if (dice < 3 && !names.isEmpty()) {
            return names.get(random.nextInt(names.size()));
        }
        if (dice < 5 && (open < 3 || random.nextInt(4) == 0) && open < 5) {
            String steps = text(open + 1);
            return (random.nextInt(20) == 0 ? random.nextInt(12) : 2 + random.nextInt(3)) + "(" + steps + ")";
        }
        StringBuilder beat = new StringBuilder();
        int parts = 1 + random.nextInt(3);
        for (int i = 0; i < parts; i++) {
            beat.append(i == 0 ? "" : ",").append(SELECTORS[random.nextInt(SELECTORS.length)]).append(' ')
                .append(ATOMS[random.nextInt(ATOMS.length)]);
        }
        return beat.toString();
    }

    private String name() {
        StringBuilder name = new StringBuilder();
        int letters = 1 + random.nextInt(random.nextInt(10) == 0 ? 10 : 2);
        for (int i = 0; i < letters; i++) {
            name.append((char) ('a' + random.nextInt(26)));
        }
        return name.toString();
    }

    /** A text with something put in, left out or cut off. */
    private String spoilt() {
        String text = text(0);
        int at = random.nextInt(text.length());
        switch (random.nextInt(3)) {
            case 0:
                return text.substring(0, at) + STRAYS[random.nextInt(STRAYS.length)] + text.substring(at);
            case 1:
                return text.substring(0, at) + text.substring(at + 1);
            default:
                return text.substring(0, at) + (random.nextBoolean() ? "  " : "");
        }
    }

    private void compare(String kind, String call, String got, String want) {
        used++;
        story.add(call + " " + got);
        seen.merge(kind + " " + want, 1, Integer::sum);
        checks.equal(call, got, want);
        if (!got.equals(want) && !differs) {
            differs = true;
            story.forEach(System.out::println);
        }
    }

    /** A run that never comes to an answer says nothing of it. */
    private void checkThatAllHappened() {
        String[] due = {"define throws.IllegalArgumentException", "define throws.IllegalStateException", "define 11",
            "dance throws.IllegalArgumentException", "dance throws.IllegalStateException", "dance 1", "dance 16",
            "backward throws.IllegalArgumentException", "backward throws.IllegalStateException", "backward 16",
            "clash 0", "clash 11", "clash 12", "clash 13", "clash 21", "clash 22", "clash 23", "undo throws.IllegalStateException",
            "undo 1", "home 24", "shape 0", "shape 2", "shape 3", "stood throws.IndexOutOfBoundsException", "select true",
            "select false", "allow throws.IllegalStateException", "resolve -1", "resolve 0", "resolve 1", "resolve 2",
            "resolve 3", "resolve 4", "way throws.IndexOutOfBoundsException", "same true", "same false", "write false"};
        for (String answer : due) {
            checks.equal("did it happen: " + answer + "?", String.valueOf(seen.containsKey(answer)), "true");
        }
        if (System.getenv("TELL") != null) {
            seen.forEach((answer, times) -> System.out.println(times + " " + answer));
        }
    }
}
