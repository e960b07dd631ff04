import java.io.IOException;

/** Each sentence of the document's promises, at its boundaries: ordinary inputs, edges and wrong inputs. */
public final class PromisesTest extends Sentences {
    private static final String HOME = "430 530 643 653 562 462 351 341";
    private static final int[] FAR = {Integer.MIN_VALUE, Integer.MIN_VALUE + 1, -65536, -256, 256, 65536, Integer.MAX_VALUE};

    private PromisesTest() throws IOException {
    }

    public static void main(String[] args) throws IOException {
        PromisesTest test = new PromisesTest();
        test.newObject();
        test.write();
        test.wipe();
        test.define();
        test.fault();
        test.beats();
        test.dance();
        test.backward();
        test.clash();
        test.undo();
        test.home();
        test.where();
        test.stood();
        test.select();
        test.shape();
        test.allow();
        test.resolve();
        test.way();
        test.same();
        test.lifetime();
        test.end("Promise ");
    }

    private void newObject() {
        sentence("Promise 1", "All dancers are home;");
        FigureCaller x = new FigureCaller();
        floor("a new object", x, HOME);
        due("shape()", () -> x.shape(), 3);
        due("resolve()", () -> x.resolve(), 0);
        FigureCaller moved = danced("a=all back");
        floor("another object moves nobody", x, HOME);
        floor("nor does a new one", moved, "420 520 743 753 572 472 251 241");

        sentence("Promise 1", "no calls, an empty text and journal.");
        illegalArgument("beats(0)", () -> x.beats(0));
        illegalArgument("dance(0)", () -> x.dance(0));
        illegalArgument("backward(0)", () -> x.backward(0));
        illegalArgument("same(0, 0)", () -> x.same(0, 0));
        illegalArgument("allow(0, true)", () -> allow(x, 0, true));
        illegalArgument("define()", () -> x.define());
        due("fault()", () -> x.fault(), 0);
        due("wipe()", () -> x.wipe(), 0);
        due("home()", () -> x.home(), 0);
        illegalState("undo()", () -> x.undo());
        outOfBounds("stood(0, 0)", () -> x.stood(0, 0));
        due("the first call", () -> Checks.define(x, "a=all tl"), 0);
    }

    private void write() {
        sentence("Promise 2", "Adds up to eight characters to the text: the bytes of the long, from the lowest on, "
            + "but for those that are 0.");
        FigureCaller x = new FigureCaller();
        due("none", () -> x.write(0L), true);
        due("none: wipe()", () -> x.wipe(), 0);
        due("one", () -> x.write(0x61L), true);
        due("one: wipe()", () -> x.wipe(), 1);
        due("one in the highest byte", () -> x.write(0x6100000000000000L), true);
        due("one in the highest byte: wipe()", () -> x.wipe(), 1);
        due("eight", () -> x.write(0x6C612020203D2061L), true);
        due("behind them, a zero within", () -> x.write(0x6C740020006CL), true);
        due("they are 12", () -> x.wipe(), 12);
        x.write(0x6C612020203D2061L);
        x.write(0x6C740020006CL);
        due("they are in order", () -> x.define(), 0);
        for (int i = 0; i < 8; i++) {
            int at = i;
            due("a zero at " + i, () -> x.write(0x6161616161616161L & ~(0xFFL << 8 * at)), true);
        }
        due("eight times seven", () -> x.wipe(), 56);

        sentence("Promise 2", "False, adding nothing, if one is not 32 .. 126,");
        int[] codes = {1, 31, 127, 128, 160, 254, 255};
        for (int i = 0; i < 8; i++) {
            for (int code : codes) {
                long bytes = 0x6161616161616161L & ~(0xFFL << 8 * i) | (long) code << 8 * i;
                due("code " + code + " at " + i, () -> x.write(bytes), false);
            }
        }
        for (long bytes : new long[] {-1L, Long.MIN_VALUE, Long.MAX_VALUE, 0x1FL, 0x7FL, 0x80L, 0x0A61L}) {
            due("write(" + bytes + ")", () -> x.write(bytes), false);
        }
        due("nothing is added", () -> x.wipe(), 0);
        due("32 and 126", () -> x.write(0x7E20L), true);
        due("code 31 behind them", () -> x.write(0x1FL), false);
        due("they are two still", () -> x.wipe(), 2);

        sentence("Promise 2", "or they would be more than 100.");
        for (int more = 1; more <= 8; more++) {
            String added = "b".repeat(more);
            FigureCaller y = new FigureCaller();
            Checks.write(y, "a".repeat(101 - more));
            due(more + " behind " + (101 - more), () -> y.write(Checks.packed(added)), false);
            due(more - 1 + " behind " + (101 - more), () -> y.write(Checks.packed(added.substring(1))), true);
            due("one behind 100", () -> y.write(0x62L), false);
            due("none behind 100", () -> y.write(0L), true);
            due("wipe() of 100", () -> y.wipe(), 100);
            due("eight behind none", () -> y.write(Checks.packed("bbbbbbbb")), true);
            due("wipe() of eight", () -> y.wipe(), 8);
        }
        FigureCaller whole = new FigureCaller();
        Checks.write(whole, "a".repeat(92));
        due("eight behind 92", () -> whole.write(Checks.packed("bbbbbbbb")), true);
        due("eight behind 100", () -> whole.write(Checks.packed("bbbbbbbb")), false);
        due("wipe() of 92 and eight", () -> whole.wipe(), 100);
        FigureCaller z = new FigureCaller();
        Checks.write(z, "a=all tl;all tr;" + " ".repeat(82));
        due("three behind 98", () -> z.write(Checks.packed("all")), false);
        illegalArgument("nothing of the three is added", () -> z.define());
        due("fault()", () -> z.fault(), 98);
    }

    private void wipe() {
        sentence("Promise 3", "Makes the text empty: how many characters it had.");
        FigureCaller x = new FigureCaller();
        due("of none", () -> x.wipe(), 0);
        Checks.write(x, "b=all fwd  ");
        due("with blanks", () -> x.wipe(), 11);
        due("again", () -> x.wipe(), 0);
        illegalArgument("the text is empty", () -> x.define());
        due("the empty text's fault", () -> x.fault(), 0);
        Checks.write(x, "a=all tl");
        due("what was wiped is not read", () -> x.define(), 0);
        due("what was defined is not there", () -> x.wipe(), 0);
        Checks.write(x, "~".repeat(100));
        due("of 100", () -> x.wipe(), 100);
        x.write(Checks.packed("b=2222"));
        x.wipe();
        x.write(Checks.packed("b=2"));
        illegalArgument("a number, once longer", () -> x.define());
        due("a number, once longer: fault()", () -> x.fault(), 3);
        x.wipe();
        x.write(Checks.packed("b=alltl"));
        x.wipe();
        x.write(Checks.packed("b=all"));
        illegalArgument("a word, once longer", () -> x.define());
        due("a word, once longer: fault()", () -> x.fault(), 5);
        due("the calls stay", () -> x.beats(0), 1);
    }

    private void define() {
        sentence("Promise 4", "Reads the text as a call: its number, 0, 1, ..; the text is empty then.");
        FigureCaller x = new FigureCaller();
        for (int i = 0; i < 12; i++) {
            int number = i;
            char name = (char) ('a' + i);
            due("call " + i, () -> Checks.define(x, name + "=all tl"), number);
            due("the text behind call " + i, () -> x.wipe(), 0);
        }

        sentence("Promise 4", "Illegal argument: it is none (the text stays);");
        FigureCaller y = Checks.with("a=all tl");
        illegalArgument("the empty text", () -> y.define());
        Checks.write(y, "b=all");
        illegalArgument("it ends too early", () -> y.define());
        illegalArgument("again", () -> y.define());
        Checks.write(y, " fwd");
        due("what was added makes it one", () -> y.define(), 1);
        illegalArgument("17 beats", () -> Checks.define(y, "c=4(4(a));a"));
        due("the text of 17 beats", () -> y.wipe(), 11);
        illegalArgument("a name that is taken", () -> Checks.define(y, "b=all tl"));
        due("the text with the name", () -> y.wipe(), 8);
        illegalArgument("no call has come of these", () -> y.beats(2));
        due("the next call", () -> Checks.define(y, "c=b"), 2);
        due("it has the parts of b", () -> y.same(1, 2), true);
        for (int i = 0; i < 20; i++) {
            illegalArgument("none, of 13 parts", () -> Checks.define(y, "d=all tl" + ",all tl".repeat(12) + ",tl"));
        }
        due("a call behind many that are none", () -> Checks.define(y, "d=all stay;all fwd"), 3);
        due("it has its beats", () -> y.beats(3), 2);
        due("and its parts", () -> y.same(3, 1), true);
        illegalArgument("none, with 12 calls", () -> Checks.define(x, "m=all"));
        due("the text, with 12 calls", () -> x.wipe(), 5);
        illegalArgument("an old name, with 12 calls", () -> Checks.define(x, "l=all tl"));

        sentence("Promise 4", "illegal state: there are 12 calls.");
        illegalState("a thirteenth", () -> Checks.define(x, "m=all tr"));
        illegalState("again", () -> x.define());
        due("the text stays", () -> x.wipe(), 8);
        illegalArgument("there is no thirteenth", () -> x.beats(12));
        due("the twelfth is as it was", () -> x.same(11, 0), true);
        illegalState("a name that a thirteenth had is free", () -> Checks.define(x, "m=l"));
        illegalArgument("and no call's", () -> Checks.define(x, "n=m"));
        for (int i = 0; i < 12; i++) {
            int call = i;
            due("beats(" + i + ")", () -> x.beats(call), 1);
        }

        FigureCaller most = new FigureCaller();
        for (int i = 0; i < 12; i++) {
            int number = i;
            due("call " + i + " with the most parts", () -> Checks.define(most,
                (char) ('a' + number) + "=all tl" + ",all tl".repeat(11) + (number % 2 == 0 ? ";all fwd" : ";all back")), number);
        }
        illegalState("a thirteenth with the most parts", () -> Checks.define(most, "m=all tl" + ",all tl".repeat(13)));
        due("the first has its own parts", () -> most.same(0, 2), true);
        due("and the last its own", () -> most.same(1, 11), true);
        due("and not the other's", () -> most.same(10, 11), false);
    }

    private void fault() {
        sentence("Promise 5", "The fault of the latest define() that threw an illegal argument;");
        FigureCaller x = Checks.with("a=all tl");
        illegalArgument("a first", () -> Checks.define(x, "b=b"));
        due("of the first", () -> x.fault(), 2);
        due("again", () -> x.fault(), 2);
        x.wipe();
        x.write(Checks.packed("more"));
        x.dance(0);
        x.undo();
        due("other calls do not matter", () -> x.fault(), 2);
        illegalArgument("other exceptions", () -> x.dance(1));
        due("do not matter", () -> x.fault(), 2);
        illegalArgument("a second", () -> Checks.define(x, "b=all tl)"));
        due("of the second", () -> x.fault(), 8);
        illegalArgument("at the beginning", () -> Checks.define(x, "=all tl"));
        due("at the beginning is 0", () -> x.fault(), 0);
        illegalArgument("at the end of 100", () -> Checks.define(x, "b=all" + " ".repeat(95)));
        due("at the end of 100 is 100", () -> x.fault(), 100);

        sentence("Promise 5", "-1 without one,");
        FigureCaller y = new FigureCaller();
        due("of a new object", () -> y.fault(), -1);
        Checks.define(y, "a=all tl");
        due("behind a call", () -> y.fault(), -1);

        sentence("Promise 5", "or when one did not throw that since then.");
        Checks.define(x, "b=all tl");
        due("behind a call", () -> x.fault(), -1);
        for (int i = 2; i < 12; i++) {
            Checks.define(x, (char) ('a' + i) + "=a");
        }
        illegalArgument("a third", () -> Checks.define(x, "=z"));
        due("of the third", () -> x.fault(), 0);
        illegalState("a thirteenth call", () -> Checks.define(x, "z=a"));
        due("behind an illegal state", () -> x.fault(), -1);
    }

    private void beats() {
        sentence("Promise 6", "How many beats a call has.");
        FigureCaller x = Checks.with("a=all tl,leads fwd", "b=a;all tl;a", "c=3(b;2(a));a", "d=4(4(all back))");
        int[] wants = {1, 3, 16, 16};
        for (int i = 0; i < wants.length; i++) {
            int call = i;
            due("beats(" + i + ")", () -> x.beats(call), wants[i]);
        }
        sentence("Promise 6", "Illegal argument.");
        illegalArgument("beats(4)", () -> x.beats(4));
        illegalArgument("beats(-1)", () -> x.beats(-1));
        for (int far : FAR) {
            illegalArgument("beats(" + far + ")", () -> x.beats(far));
        }
    }

    private void dance() {
        sentence("Promise 7", "Dances a call: how many beats.");
        FigureCaller x = Checks.with("out=all back", "far=4(all back)", "spin=4(4(all tl))");
        due("one beat", () -> x.dance(0), 1);
        floor("danced out", x, "420 520 743 753 572 472 251 241");
        due("16 beats", () -> x.dance(2), 16);
        due("two calls are in the journal", () -> x.home(), 2);

        sentence("Promise 7", "Illegal argument;");
        illegalArgument("dance(3)", () -> x.dance(3));
        illegalArgument("dance(-1)", () -> x.dance(-1));
        for (int far : FAR) {
            illegalArgument("dance(" + far + ")", () -> x.dance(far));
        }
        due("the journal stays empty", () -> x.home(), 0);

        sentence("Promise 7", "illegal state: the journal is full, or a beat fails.");
        x.dance(0);
        illegalState("the third beat leaves the floor", () -> x.dance(1));
        floor("nothing of it is danced", x, "420 520 743 753 572 472 251 241");
        due("the journal has one", () -> x.home(), 1);
        for (int i = 0; i < 23; i++) {
            x.dance(2);
        }
        due("a 24th", () -> x.dance(0), 1);
        illegalState("a 25th", () -> x.dance(2));
        illegalState("a 25th that fails", () -> x.dance(1));
        illegalArgument("none as 25th", () -> x.dance(3));
        floor("the 24th stands", x, "420 520 743 753 572 472 251 241");
        due("the 24th is the last", () -> x.undo(), 1);
        due("another 24th", () -> x.dance(2), 16);
        due("24 calls", () -> x.home(), 24);
        due("one behind home()", () -> x.dance(2), 16);
    }

    private void backward() {
        sentence("Promise 8", "Dances a call backward: how many beats.");
        FigureCaller x = Checks.with("out=all back;all tl", "far=4(all fwd)", "spin=4(4(all tl))",
            "cross=leads left,follows right");
        due("two beats", () -> x.backward(0), 2);
        floor("danced backward", x, "531 631 650 660 463 363 342 332");
        due("16 beats", () -> x.backward(2), 16);
        due("two calls are in the journal", () -> x.home(), 2);
        x.dance(0);
        x.backward(0);
        floor("there and back", x, HOME);
        due("both are in the journal", () -> x.home(), 2);

        sentence("Promise 8", "Illegal argument;");
        illegalArgument("backward(4)", () -> x.backward(4));
        illegalArgument("backward(-1)", () -> x.backward(-1));
        for (int far : FAR) {
            illegalArgument("backward(" + far + ")", () -> x.backward(far));
        }
        due("the journal stays empty", () -> x.home(), 0);

        sentence("Promise 8", "illegal state: the journal is full, or a beat fails.");
        illegalState("the fourth beat leaves the floor", () -> x.backward(1));
        illegalState("two cross", () -> x.backward(3));
        floor("nothing of these is danced", x, HOME);
        due("the journal is empty", () -> x.home(), 0);
        for (int i = 0; i < 23; i++) {
            x.backward(2);
        }
        due("a 24th", () -> x.backward(0), 2);
        illegalState("a 25th", () -> x.backward(2));
        illegalState("a 25th that fails", () -> x.backward(1));
        illegalArgument("none as 25th", () -> x.backward(4));
        floor("the 24th stands", x, "531 631 650 660 463 363 342 332");
        due("24 calls", () -> x.home(), 24);
    }

    private void clash() {
        sentence("Promise 9", "Of the latest dance() or backward() that threw since a beat failed: 10 times the number of that beat, "
            + "from 1 on, as they come, and the clash;");
        FigureCaller x = Checks.with("bad=all stay;all fwd", "off=4(all back)", "good=all stay",
            "apart=leads right,follows left;2(all stay)", "late=3(all tl;all tr;all stay;2(all stay));all fwd", "out=all back");
        illegalState("the second beat", () -> x.dance(0));
        due("of the second beat", () -> x.clash(), 22);
        due("again", () -> x.clash(), 22);
        illegalState("the fourth beat", () -> x.dance(1));
        due("of the fourth beat", () -> x.clash(), 41);
        illegalState("the first beat", () -> x.dance(3));
        due("of the first beat", () -> x.clash(), 13);
        illegalState("the first beat, backward the third", () -> x.backward(3));
        due("of the third beat", () -> x.clash(), 32);
        illegalState("the 16th beat", () -> x.dance(4));
        due("of the 16th beat", () -> x.clash(), 162);
        illegalArgument("no call", () -> x.dance(9));
        illegalArgument("no call backward", () -> x.backward(-1));
        illegalState("no undo()", () -> x.undo());
        due("other exceptions do not matter", () -> x.clash(), 162);
        x.dance(5);
        illegalState("the third beat", () -> x.dance(1));
        x.allow(1, true);
        x.allow(2, true);
        x.resolve();
        x.same(0, 2);
        due("nor do calls that dance for themselves", () -> x.clash(), 31);
        x.home();

        sentence("Promise 9", "0 without one,");
        FigureCaller y = Checks.with("out=all back", "bad=all fwd;all fwd");
        due("of a new object", () -> y.clash(), 0);
        y.dance(0);
        y.allow(1, true);
        y.resolve();
        y.same(0, 1);
        due("behind resolve() and same(), whose beats fail", () -> y.clash(), 0);
        illegalArgument("no call", () -> y.dance(2));
        due("behind an illegal argument", () -> y.clash(), 0);

        sentence("Promise 9", "or when one danced since then.");
        x.dance(2);
        due("behind a dance", () -> x.clash(), 0);
        illegalState("the fourth beat again", () -> x.dance(1));
        x.undo();
        due("undo() is none", () -> x.clash(), 41);
        x.home();
        due("home() is none", () -> x.clash(), 41);
        x.backward(2);
        due("behind a backward dance", () -> x.clash(), 0);
        for (int i = 1; i < 23; i++) {
            x.dance(2);
        }
        illegalState("the 24th fails", () -> x.dance(1));
        due("of the 24th", () -> x.clash(), 41);
        x.dance(2);
        illegalState("the journal is full", () -> x.dance(1));
        due("a full journal is no beat that fails", () -> x.clash(), 0);
        illegalState("the journal is full backward", () -> x.backward(1));
        due("nor is it backward", () -> x.clash(), 0);
    }

    private void undo() {
        sentence("Promise 10", "Takes the last call of the journal back, all stand as before it: how many beats it had.");
        FigureCaller x = Checks.with("out=all back;all tl", "turn=4(4(all tr))", "in=north fwd,heads stay,leads tl,follows tr");
        x.dance(0);
        String out = Checks.floor(x);
        x.backward(1);
        x.backward(2);
        due("of one beat", () -> x.undo(), 1);
        due("of a backward dance of 16 beats", () -> x.undo(), 16);
        floor("all stand as before it", x, out);
        due("of a dance", () -> x.undo(), 2);
        floor("all are home", x, HOME);
        for (int i = 0; i < 24; i++) {
            x.dance(1);
        }
        for (int i = 0; i < 24; i++) {
            due("of 24, " + i, () -> x.undo(), 16);
        }

        sentence("Promise 10", "Illegal state: there is none.");
        illegalState("behind the last", () -> x.undo());
        illegalState("of a new object", () -> new FigureCaller().undo());
        x.dance(0);
        x.home();
        illegalState("behind home()", () -> x.undo());
        illegalArgument("a dance of none", () -> x.dance(3));
        illegalState("behind a dance that throws", () -> x.undo());
        floor("nobody moves", x, HOME);
    }

    private void home() {
        sentence("Promise 11", "Brings all dancers home, and makes the journal empty: how many calls it had.");
        FigureCaller x = Checks.with("out=all back;all tl");
        due("of none", () -> x.home(), 0);
        x.dance(0);
        x.backward(0);
        x.dance(0);
        due("of three", () -> x.home(), 3);
        floor("all are home", x, HOME);
        outOfBounds("stood(0, 0)", () -> x.stood(0, 0));
        illegalState("undo()", () -> x.undo());
        due("again", () -> x.home(), 0);
        for (int i = 0; i < 12; i++) {
            x.dance(0);
            x.backward(0);
        }
        due("of 24", () -> x.home(), 24);
        due("the calls stay", () -> x.dance(0), 2);
        x.undo();
        due("of one taken back", () -> x.home(), 0);
    }

    private void where() {
        sentence("Promise 12", "Of a dancer: what = 0: x, 1: y, 2: the facing.");
        FigureCaller x = Checks.with("out=3(all back);all tr");
        due("where(2, 0)", () -> x.where(2, 0), 6);
        due("where(2, 1)", () -> x.where(2, 1), 4);
        due("where(2, 2)", () -> x.where(2, 2), 3);
        x.dance(0);
        floor("at the edges", x, "401 501 940 950 593 493 052 042");

        sentence("Promise 12", "Illegal argument: also if what is none of these.");
        for (int d = 0; d < 8; d++) {
            int dancer = d;
            illegalArgument("where(" + d + ", 3)", () -> x.where(dancer, 3));
            illegalArgument("where(" + d + ", -1)", () -> x.where(dancer, -1));
        }
        for (int far : FAR) {
            illegalArgument("where(0, " + far + ")", () -> x.where(0, far));
            illegalArgument("where(" + far + ", 0)", () -> x.where(far, 0));
        }
        illegalArgument("where(8, 2)", () -> x.where(8, 2));
        illegalArgument("where(-1, 0)", () -> x.where(-1, 0));
        illegalArgument("where(8, 3)", () -> x.where(8, 3));
    }

    private void stood() {
        sentence("Promise 13", "10 y + x of the spot where a dancer stood behind a beat (0: before the first one) "
            + "of the last call of the journal.");
        FigureCaller x = Checks.with("out=all back;all tl;all stay", "in=all fwd", "long=4(all back;all tl;all tl;all stay)");
        x.dance(0);
        due("stood(0, 2)", () -> x.stood(0, 2), 46);
        due("stood(1, 2)", () -> x.stood(1, 2), 47);
        due("stood(3, 2)", () -> x.stood(3, 2), 47);
        x.backward(0);
        due("backward, before the first beat", () -> x.stood(0, 0), 24);
        due("backward, behind the second beat", () -> x.stood(2, 0), 24);
        due("backward, behind the last beat", () -> x.stood(3, 0), 34);
        illegalState("a dance that fails", () -> x.dance(1));
        due("is not the last call", () -> x.stood(0, 0), 24);
        due("nor are its beats", () -> x.stood(3, 0), 34);
        x.undo();
        due("of the call before", () -> x.stood(0, 0), 34);
        due("behind the first beat of the call before", () -> x.stood(1, 0), 24);
        x.home();
        x.dance(2);
        due("before 16 beats", () -> x.stood(0, 7), 43);
        due("behind one of 16", () -> x.stood(1, 7), 42);
        due("behind 15 of 16", () -> x.stood(13, 7), 43);
        due("behind 16", () -> x.stood(16, 7), 43);
        x.home();
        x.dance(Checks.define(x, "edge=3(all back)"));
        due("y = 0", () -> x.stood(3, 0), 4);
        due("x = 9", () -> x.stood(3, 3), 59);
        due("y = 9", () -> x.stood(3, 5), 94);
        due("x = 0", () -> x.stood(3, 7), 40);

        sentence("Promise 13", "Illegal argument;");
        illegalArgument("stood(0, 8)", () -> x.stood(0, 8));
        illegalArgument("stood(0, -1)", () -> x.stood(0, -1));
        illegalArgument("stood(4, 8), without such a beat", () -> x.stood(4, 8));
        for (int far : FAR) {
            illegalArgument("stood(0, " + far + ")", () -> x.stood(0, far));
            illegalArgument("stood(" + far + ", " + far + ")", () -> x.stood(far, far));
        }

        sentence("Promise 13", "index out of bounds: it has no such beat, or there is no call in the journal.");
        outOfBounds("stood(4, 0) of three beats", () -> x.stood(4, 0));
        outOfBounds("stood(-1, 0)", () -> x.stood(-1, 0));
        for (int far : FAR) {
            outOfBounds("stood(" + far + ", 0)", () -> x.stood(far, 0));
        }
        x.home();
        x.dance(2);
        outOfBounds("stood(17, 0) of 16 beats", () -> x.stood(17, 0));
        x.dance(Checks.define(x, "s=all stay"));
        due("stood(1, 0) of one beat", () -> x.stood(1, 0), 34);
        outOfBounds("stood(2, 0) of one beat", () -> x.stood(2, 0));
        x.home();
        outOfBounds("stood(0, 0) behind home()", () -> x.stood(0, 0));
        illegalArgument("stood(0, 8) behind home()", () -> x.stood(0, 8));
        x.dance(0);
        x.undo();
        outOfBounds("stood(0, 0) behind undo()", () -> x.stood(0, 0));
        outOfBounds("stood(0, 0) of a new object", () -> new FigureCaller().stood(0, 0));
    }

    private void select() {
        sentence("Promise 14", "Whether a selector has a dancer now.");
        FigureCaller x = Checks.with("in=heads fwd", "out=west back", "turn=all tr");
        selected(x, "at home", "01234567", "0246", "1357", "0145", "2367", "01", "67", "45", "23", "0127", "3456", "", "01234567");
        x.dance(2);
        selected(x, "turned", "01234567", "0246", "1357", "0145", "2367", "23", "01", "67", "45", "0127", "3456", "1357", "0246");
        x.undo();
        selected(x, "taken back", "01234567", "0246", "1357", "0145", "2367", "01", "67", "45", "23", "0127", "3456", "", "01234567");
        x.dance(0);
        x.dance(1);
        selected(x, "heads in, two out", "01234567", "0246", "1357", "0145", "2367", "01", "67", "45", "23", "0145", "2367", "",
            "01234567");

        sentence("Promise 14", "Illegal argument.");
        illegalArgument("select(13, 0)", () -> x.select(13, 0));
        illegalArgument("select(-1, 0)", () -> x.select(-1, 0));
        illegalArgument("select(0, 8)", () -> x.select(0, 8));
        illegalArgument("select(12, -1)", () -> x.select(12, -1));
        for (int far : FAR) {
            illegalArgument("select(" + far + ", 0)", () -> x.select(far, 0));
            illegalArgument("select(0, " + far + ")", () -> x.select(0, far));
        }
    }

    private void selected(FigureCaller x, String what, String... wants) {
        for (int i = 0; i < wants.length; i++) {
            int selector = i;
            due(what + ": selector " + i, () -> Checks.selected(x, selector), wants[i]);
        }
    }

    private void shapeOf(int want, String... calls) {
        FigureCaller x = danced(calls);
        due("shape behind " + String.join(" | ", calls), () -> x.shape(), want);
    }

    private static String[] with(String[] calls, String... more) {
        String[] all = new String[calls.length + more.length];
        System.arraycopy(calls, 0, all, 0, calls.length);
        System.arraycopy(more, 0, all, calls.length, more.length);
        return all;
    }

    /** Whether a shape stays what it is in the floor's corners, so many steps to each side. */
    private void cornersOf(int want, String[] calls, int west, int east, int south, int north) {
        FigureCaller x = danced(with(calls, "z=west tr,east tl,south tl;south tl"));
        int left = Checks.define(x, "zl=all left");
        int right = Checks.define(x, "zr=all right");
        int back = Checks.define(x, "zb=all back");
        int fwd = Checks.define(x, "zf=all fwd");
        cornerOf(want, x, left, west, back, south);
        cornerOf(want, x, right, east, back, south);
        cornerOf(want, x, left, west, fwd, north);
        cornerOf(want, x, right, east, fwd, north);
    }

    private void cornerOf(int want, FigureCaller x, int aside, int asideSteps, int along, int alongSteps) {
        repeat(x, aside, asideSteps);
        due("at a side", () -> x.shape(), want);
        repeat(x, along, alongSteps);
        due("in a corner", () -> x.shape(), want);
        illegalState("it is the corner's one side", () -> x.dance(aside));
        illegalState("it is the corner's other side", () -> x.dance(along));
        for (int i = 0; i < asideSteps + alongSteps; i++) {
            x.undo();
        }
    }

    private static void repeat(FigureCaller x, int call, int times) {
        for (int i = 0; i < times; i++) {
            x.dance(call);
        }
    }

    private void shape() {
        String[] row = {"in=heads fwd", "a=2(heads stay,leads stay,west back;heads stay,follows stay,east back)",
            "b=2(north stay,sides stay,leads left,all right)",
            "c=heads stay,leads stay,west left;heads stay,follows stay,east right;south fwd"};
        String[] column = {"in=sides fwd", "a=2(sides stay,follows stay,north back;sides stay,leads stay,south back)",
            "b=2(heads stay,west stay,leads left,all right)",
            "c=sides stay,follows stay,north right;sides stay,leads stay,south left;east fwd"};
        sentence("Promise 15", "The form that the dancers' spots have: 1 all side by side in one row or column,");
        shapeOf(1, row);
        shapeOf(1, column);
        cornersOf(1, row, 1, 1, 4, 5);
        cornersOf(1, column, 5, 4, 1, 1);
        shapeOf(0, with(row, "gap=heads stay,leads stay,west back"));
        shapeOf(0, with(column, "gap=sides stay,leads stay,south back"));
        shapeOf(0, with(row, "off=heads stay,leads stay,west left"));
        shapeOf(0, with(column, "off=sides stay,leads stay,south left"));

        sentence("Promise 15", "2 a rectangle of two by four,");
        shapeOf(2, "a=heads fwd");
        shapeOf(2, "a=sides fwd");
        cornersOf(2, new String[] {"a=heads fwd"}, 3, 3, 4, 4);
        cornersOf(2, new String[] {"a=sides fwd"}, 4, 4, 3, 3);
        shapeOf(0, "a=heads fwd;north back");
        shapeOf(0, "a=heads fwd;heads stay,leads stay,west back");
        shapeOf(0, "a=heads fwd;heads stay,follows stay,west left");

        sentence("Promise 15", "3 a square of four by four without its corners and its inner four,");
        shapeOf(3);
        shapeOf(3, "a=all tr");
        cornersOf(3, new String[0], 3, 3, 3, 3);
        shapeOf(0, "a=all back");
        shapeOf(0, "a=north back");
        shapeOf(0, "a=north left");
        shapeOf(0, "a=follows stay,north fwd");
        shapeOf(0, "a=sides stay,follows stay,north left");

        String[] frame = {"a=south fwd,leads stay,east fwd", "b=3(heads stay,follows stay,east right)",
            "c=3(heads stay,follows stay,east fwd);heads stay,follows stay,east left"};
        sentence("Promise 15", "4 a square of three by three without its middle;");
        shapeOf(4, frame);
        cornersOf(4, frame, 4, 3, 3, 4);
        shapeOf(0, with(frame, "middle=leads stay,east fwd"));
        shapeOf(0, with(frame, "out=north back"));
        shapeOf(0, with(frame, "out=sides stay,follows stay,north left"));

        sentence("Promise 15", "0 none of these.");
        shapeOf(0, "a=3(all back)");
        shapeOf(0, "a=heads back");
        shapeOf(0, "a=heads left");
        FigureCaller x = danced("a=all back");
        due("before it is taken back", () -> x.shape(), 0);
        x.undo();
        due("taken back", () -> x.shape(), 3);
    }

    private static String allow(FigureCaller x, int call, boolean yes) {
        x.allow(call, yes);
        return "done";
    }

    private void allowed(FigureCaller x, int call, boolean yes, String want) {
        due("allow(" + call + ", " + yes + ")", () -> allow(x, call, yes), want);
    }

    private static FigureCaller withSeven() {
        return Checks.with("a=all tl", "b=all tr", "c=all back", "d=all fwd", "e=all stay", "f=a;a", "g=b;b");
    }

    private void allow() {
        sentence("Promise 16", "Allows a call on the way home, or not.");
        FigureCaller x = withSeven();
        x.dance(2);
        due("none is allowed at first", () -> x.resolve(), -1);
        allowed(x, 3, false, "done");
        due("nor behind a no", () -> x.resolve(), -1);
        allowed(x, 3, true, "done");
        due("one is allowed", () -> x.resolve(), 1);
        allowed(x, 3, true, "done");
        due("allowed twice", () -> x.resolve(), 1);
        allowed(x, 3, false, "done");
        due("not allowed any more", () -> x.resolve(), -1);

        sentence("Promise 16", "Illegal argument;");
        allowed(x, 7, true, "throws.IllegalArgumentException");
        allowed(x, 7, false, "throws.IllegalArgumentException");
        allowed(x, -1, true, "throws.IllegalArgumentException");
        for (int far : FAR) {
            allowed(x, far, true, "throws.IllegalArgumentException");
            allowed(x, far, false, "throws.IllegalArgumentException");
        }
        due("still none is allowed", () -> x.resolve(), -1);
        Checks.define(x, "h=all fwd");
        due("nor a call that was named before it was there", () -> x.resolve(), -1);

        sentence("Promise 16", "illegal state: five others are allowed.");
        FigureCaller y = withSeven();
        for (int i = 0; i < 5; i++) {
            allowed(y, i, true, "done");
        }
        allowed(y, 5, true, "throws.IllegalStateException");
        // The document makes no difference here between yes and no.
        allowed(y, 6, false, "throws.IllegalStateException");
        allowed(y, 7, true, "throws.IllegalArgumentException");
        allowed(y, 4, true, "done");
        allowed(y, 4, false, "done");
        allowed(y, 4, false, "done");
        allowed(y, 6, true, "done");
        allowed(y, 4, true, "throws.IllegalStateException");
        y.backward(5);
        due("those refused are not allowed", () -> y.resolve(), 1);
        due("the one taken is", () -> y.way(0), 6);
        allowed(y, 6, false, "done");
        due("the others are allowed still", () -> y.resolve(), 2);
    }

    private void resolve() {
        sentence("Promise 17", "The least number of allowed calls, at most 4, which danced one after the other");
        FigureCaller x = withSeven();
        x.allow(1, true);
        x.allow(3, true);
        int[] wants = {0, 1, 2, 3, 4, -1};
        for (int far = 0; far < wants.length; far++) {
            x.home();
            repeat(x, 2, Math.min(far, 3));
            repeat(x, 0, Math.max(far - 3, 0));
            due(far + " away", () -> x.resolve(), wants[far]);
        }
        x.allow(6, true);
        due("a call of two beats is one call", () -> x.resolve(), 4);
        FigureCaller five = withSeven();
        for (int i = 0; i < 5; i++) {
            five.allow(i, true);
        }
        repeat(five, 2, 3);
        due("three of five calls", () -> five.resolve(), 3);
        five.dance(0);
        due("four of five calls", () -> five.resolve(), 4);
        five.dance(0);
        due("none of at most four", () -> five.resolve(), -1);

        FigureCaller last = Checks.with("a=all stay", "b=all stay", "c=all stay", "d=all stay",
            "e=sides stay,follows stay,north right", "out=4(sides stay,follows stay,north left)");
        for (int i = 0; i < 5; i++) {
            last.allow(i, true);
        }
        last.dance(5);
        due("the last of all rows of four", () -> wayOf(last), "4 4 4 4");
        last.allow(4, false);
        due("none of all rows of four", () -> last.resolve(), -1);

        sentence("Promise 17", "(none of whose beats fails, the journal aside)");
        FigureCaller y = Checks.with("spin=all tr", "five=all fwd;all back;3(all tr)", "s=all stay");
        y.allow(1, true);
        y.dance(0);
        due("a call that comes home, and does not fail", () -> y.resolve(), 1);
        y.home();
        y.allow(1, false);
        y.allow(Checks.define(y, "bad=3(all tr);leads right,follows left;leads left,follows right"), true);
        y.dance(0);
        due("a call that would come home, but fails", () -> y.resolve(), -1);
        y.allow(2, true);
        due("by no stay", () -> y.resolve(), -1);
        y.allow(0, true);
        due("by three of one", () -> y.resolve(), 3);
        for (int i = 1; i < 24; i++) {
            y.dance(2);
        }
        due("with a full journal", () -> y.resolve(), 3);
        y.undo();
        due("with one place in the journal", () -> y.resolve(), 3);

        sentence("Promise 17", "bring all dancers home, with home's facings;");
        FigureCaller z = withSeven();
        z.allow(3, true);
        due("at home", () -> z.resolve(), 0);
        z.dance(0);
        due("at home but for the facings", () -> z.resolve(), -1);
        z.dance(2);
        due("out, with other facings", () -> z.resolve(), -1);
        z.allow(1, true);
        due("out, with a turn allowed", () -> z.resolve(), 2);
        z.dance(3);
        repeat(z, 0, 3);
        due("at home again", () -> z.resolve(), 0);
        FigureCaller one = danced("a=sides stay,follows stay,north back");
        one.allow(Checks.define(one, "b=all stay"), true);
        due("all but one are home", () -> one.resolve(), -1);
        one.allow(Checks.define(one, "c=sides stay,follows stay,north fwd"), true);
        due("and this one comes home", () -> one.resolve(), 1);
        FigureCaller swapped = danced("a=leads tr,follows tl;all fwd;leads tl,follows tr");
        due("all spots are taken, by others", () -> swapped.resolve(), -1);

        sentence("Promise 17", "-1 if there are none.");
        FigureCaller none = withSeven();
        none.dance(2);
        due("none is allowed", () -> none.resolve(), -1);
        none.allow(0, true);
        due("none comes home", () -> none.resolve(), -1);
        none.allow(0, false);
        none.allow(3, true);
        none.dance(2);
        due("two come home", () -> none.resolve(), 2);
        none.dance(0);
        due("none comes home where one did before", () -> none.resolve(), -1);

        sentence("Promise 17", "The dancers stay where they are.");
        z.home();
        z.dance(2);
        String floor = Checks.floor(z);
        due("a way is found", () -> z.resolve(), 1);
        floor("nobody moves", z, floor);
        due("again", () -> z.resolve(), 1);
        due("the last call is what it was", () -> z.stood(1, 0), 24);
        due("the journal has one", () -> z.home(), 1);
    }

    private static String wayOf(FigureCaller x) {
        StringBuilder row = new StringBuilder();
        int length = x.resolve();
        for (int i = 0; i < length; i++) {
            row.append(x.way(i)).append(' ');
        }
        return row.toString().trim();
    }

    private void way() {
        sentence("Promise 18", "The i-th of the calls that the latest resolve() found:");
        FigureCaller x = withSeven();
        x.allow(0, true);
        x.allow(1, true);
        x.allow(3, true);
        repeat(x, 2, 2);
        repeat(x, 0, 2);
        due("of four", () -> wayOf(x), "0 0 3 3");
        x.home();
        x.allow(3, false);
        due("it stays till the next resolve()", () -> x.way(3), 3);
        x.dance(2);
        x.dance(0);
        x.allow(3, true);
        due("of two", () -> wayOf(x), "1 3");

        sentence("Promise 18", "of all rows of so many that do, the one with the least number first, then second, and so on.");
        FigureCaller y = Checks.with("r=all tr", "l=all tl", "rr=r;r", "out=all back", "in=all fwd");
        y.allow(0, true);
        y.allow(1, true);
        y.dance(2);
        due("the least of two by two", () -> wayOf(y), "0 0");
        y.allow(2, true);
        due("a shorter one is better than a lesser one", () -> wayOf(y), "2");
        y.home();
        y.allow(2, false);
        y.allow(4, true);
        repeat(y, 3, 2);
        y.dance(2);
        due("the least first of four", () -> wayOf(y), "0 0 4 4");
        FigureCaller turns = Checks.with("two=2(all tr)", "three=3(all tr)", "tri=3(all tr)", "once=all tl");
        for (int i = 0; i < 3; i++) {
            turns.allow(i, true);
        }
        turns.dance(3);
        due("the least first, then second", () -> wayOf(turns), "0 1");
        turns.allow(1, false);
        due("the least that is allowed second", () -> wayOf(turns), "0 2");
        turns.allow(0, false);
        turns.allow(1, true);
        due("the least third", () -> wayOf(turns), "1 1 1");
        FigureCaller twins = Checks.with("a=all fwd", "b=all fwd", "c=all fwd", "d=all back", "e=all back");
        for (int i = 2; i >= 0; i--) {
            twins.allow(i, true);
        }
        repeat(twins, 3, 3);
        due("the least of three by three by three", () -> wayOf(twins), "0 0 0");
        twins.allow(0, false);
        due("without the least", () -> wayOf(twins), "1 1 1");

        sentence("Promise 18", "Index out of bounds: it found no so many.");
        outOfBounds("of a new object", () -> new FigureCaller().way(0));
        outOfBounds("before resolve()", () -> withSeven().way(0));
        x.resolve();
        due("way(1) of two", () -> x.way(1), 3);
        outOfBounds("way(2) of two", () -> x.way(2));
        outOfBounds("way(-1)", () -> x.way(-1));
        for (int far : FAR) {
            outOfBounds("way(" + far + ")", () -> x.way(far));
        }
        x.home();
        repeat(x, 2, 2);
        repeat(x, 0, 2);
        x.resolve();
        due("way(3) of four", () -> x.way(3), 3);
        outOfBounds("way(4) of four", () -> x.way(4));
        x.home();
        x.resolve();
        outOfBounds("way(0) at home", () -> x.way(0));
        x.dance(2);
        x.resolve();
        due("way(0) of one", () -> x.way(0), 3);
        x.allow(3, false);
        x.resolve();
        outOfBounds("way(0) without a way", () -> x.way(0));
    }

    private void same() {
        sentence("Promise 19", "Whether two calls come to the same, from home, and from home with all dancers turned once, twice, "
            + "three times to the right on their spots:");
        FigureCaller x = Checks.with("a=all tl;all tl", "b=2(all tr)", "c=all tr", "d=heads fwd", "e=north fwd,south fwd");
        due("two turns", () -> x.same(0, 1), true);
        due("the same call", () -> x.same(2, 2), true);
        due("other turns", () -> x.same(0, 2), false);
        due("the same from home alone", () -> x.same(3, 4), false);
        x.dance(2);
        due("two turns, wherever they stand now", () -> x.same(0, 1), true);
        due("the same from home alone, wherever they stand now", () -> x.same(3, 4), false);
        FigureCaller spots = Checks.with("a=all tl", "b=front tl,rear tl", "c=rear tl", "d=front tl");
        due("on home's spots all have nobody before them or nobody behind", () -> spots.same(0, 1), true);
        due("but not always behind", () -> spots.same(0, 2), false);
        due("nor always before", () -> spots.same(0, 3), false);
        String[] facings = {"north", "east", "south", "west"};
        for (int turns = 0; turns < 4; turns++) {
            sameButFor(turns, "ends stay,sides stay,follows stay," + facings[turns]);
        }

        sentence("Promise 19", "both fail, or all dancers stand at the same spots with the same facings then.");
        FigureCaller y = Checks.with("a=4(2(all back))", "b=all stay;4(2(heads back))", "c=4(2(sides back))", "d=all stay",
            "e=all tr", "f=heads stay,all stay", "g=4(all tr)", "h=leads stay,heads stay,west back,all stay");
        due("both fail wherever they begin", () -> y.same(0, 1), true);
        due("both fail wherever they begin, too", () -> y.same(1, 2), true);
        due("only the first fails", () -> y.same(0, 3), false);
        due("only the second fails", () -> y.same(3, 0), false);
        due("the same spots, not the same facings", () -> y.same(3, 4), false);
        due("the same facings, not the same spots", () -> y.same(3, 7), false);
        due("another number of beats", () -> y.same(3, 6), true);
        due("the same spots and facings", () -> y.same(3, 5), true);
        floor("same() moves nobody", y, HOME);
        due("same() adds nothing to the journal", () -> y.home(), 0);
        due("same() is no dance", () -> y.clash(), 0);

        sentence("Promise 19", "Illegal argument.");
        illegalArgument("same(0, 8)", () -> y.same(0, 8));
        illegalArgument("same(8, 0)", () -> y.same(8, 0));
        illegalArgument("same(-1, 0)", () -> y.same(-1, 0));
        illegalArgument("same(0, -1)", () -> y.same(0, -1));
        illegalArgument("same(8, 8)", () -> y.same(8, 8));
        for (int far : FAR) {
            illegalArgument("same(0, " + far + ")", () -> y.same(0, far));
            illegalArgument("same(" + far + ", 0)", () -> y.same(far, 0));
        }
    }

    /** The beat is for dancer 0 alone, and that only if all have been turned so many times. */
    private void sameButFor(int turns, String who) {
        FigureCaller x = Checks.with("s=all stay", "a=" + who + " tl", "b=4(4(" + who + " fwd))", "c=4(4(" + who + " back))",
            "d=4(" + who + " tr)");
        due(turns + " turns: one turns then", () -> x.same(0, 1), false);
        due(turns + " turns: one turns then, the other way about", () -> x.same(1, 0), false);
        due(turns + " turns: one fails then", () -> x.same(0, 2), false);
        due(turns + " turns: one fails, one turns then", () -> x.same(1, 2), false);
        due(turns + " turns: both fail then", () -> x.same(2, 3), true);
        due(turns + " turns: all round", () -> x.same(0, 4), true);
    }

    private void lifetime() {
        sentence("What it is", "An object is used for at most 512 calls after it has been made;");
        FigureCaller x = Checks.with("a=all tl");
        for (int i = 0; i < 238; i++) {
            x.dance(0);
            x.undo();
        }
        due("still dances", () -> x.dance(0), 1);
        due("still takes back", () -> x.undo(), 1);
        floor("still stands", x, HOME);
    }
}
