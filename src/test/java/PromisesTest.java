import java.util.function.Supplier;

/** Each promise of the document: ordinary inputs, the edges that it names, and wrong inputs. */
public final class PromisesTest {
    private static final String HOME = "430 530 643 653 562 462 351 341";
    private static final Checks CHECKS = new Checks();

    public static void main(String[] args) {
        newObject();
        write();
        wipe();
        define();
        tokens();
        faults();
        limits();
        fault();
        beats();
        dance();
        atoms();
        selectorsAreTaken();
        clashes();
        backward();
        clash();
        undo();
        home();
        where();
        stood();
        select();
        shape();
        allow();
        resolve();
        way();
        same();
        throwsChangeNothing();
        CHECKS.end();
    }

    private static void due(String what, Supplier<Object> call, Object want) {
        CHECKS.due(what, call, want);
    }

    // Promise 1.
    private static void newObject() {
        FigureCaller x = new FigureCaller();
        due("new: floor", () -> Checks.floor(x), HOME);
        due("new: fault()", () -> x.fault(), -1);
        due("new: clash()", () -> x.clash(), 0);
        CHECKS.illegalArgument("new: beats(0)", () -> x.beats(0));
        CHECKS.illegalState("new: undo()", () -> x.undo());
        CHECKS.outOfBounds("new: way(0)", () -> x.way(0));
        due("new: resolve()", () -> x.resolve(), 0);
        due("new: home()", () -> x.home(), 0);
        due("new: wipe()", () -> x.wipe(), 0);
    }

    // Promise 2.
    private static void write() {
        FigureCaller x = new FigureCaller();
        due("write(0)", () -> x.write(0L), true);
        due("write of none is none", () -> x.wipe(), 0);
        // "a=al", a 0 between, then "l": zeros are passed over wherever they stand.
        due("write with a zero within", () -> x.write(0x6C006C613D61L), true);
        due("write on", () -> Checks.write(x, " tl"), true);
        due("write: the low byte is first", () -> x.define(), 0);
        due("write of 31", () -> x.write(0x1F61L), false);
        due("write of 127", () -> x.write(0x7F61L), false);
        due("write of 128", () -> x.write(0x8061L), false);
        due("write of -1", () -> x.write(-1L), false);
        due("write of a wrong highest byte", () -> x.write(0x0161616161616161L), false);
        due("write that is refused adds nothing", () -> x.wipe(), 0);
        due("write of 32 and 126", () -> x.write(0x7E20L), true);
        due("write of 32 and 126 adds two", () -> x.wipe(), 2);

        Checks.write(x, "a".repeat(96));
        due("write of 5 behind 96", () -> x.write(Checks.packed("aaaaa")), false);
        due("write of 4 behind 96", () -> x.write(Checks.packed("aaaa")), true);
        due("write of 1 behind 100", () -> x.write(Checks.packed("a")), false);
        due("write of none behind 100", () -> x.write(0L), true);
        due("write up to 100", () -> x.wipe(), 100);
    }

    // Promise 3.
    private static void wipe() {
        FigureCaller x = new FigureCaller();
        Checks.write(x, "b=all fwd  ");
        due("wipe() counts blanks", () -> x.wipe(), 11);
        due("wipe() again", () -> x.wipe(), 0);
        Checks.write(x, "a=all tl");
        due("wipe() has taken all", () -> x.define(), 0);
    }

    // Promise 4.
    private static void define() {
        FigureCaller x = new FigureCaller();
        for (int i = 0; i < 12; i++) {
            int number = i;
            char name = (char) ('a' + i);
            due("define() of call " + i, () -> Checks.define(x, name + "=all tl"), number);
            due("define() empties the text", () -> x.wipe(), 0);
        }
        CHECKS.illegalState("define() of a thirteenth", () -> Checks.define(x, "m=all tl"));
        CHECKS.illegalState("define() again: the text stays", () -> x.define());
        due("define() of a thirteenth keeps the text", () -> x.wipe(), 8);
        CHECKS.illegalArgument("define() of none, with twelve", () -> Checks.define(x, "m=all"));
        due("define() of none keeps the text", () -> x.wipe(), 5);
        CHECKS.illegalArgument("define() of no thirteenth", () -> x.beats(12));
        CHECKS.illegalArgument("define() of an old name, with twelve", () -> Checks.define(x, "a=all tl"));

        FigureCaller y = Checks.with("a=all tl");
        CHECKS.illegalArgument("define() that ends too early", () -> Checks.define(y, "b=all"));
        Checks.write(y, " fwd");
        due("define() of what was added", () -> y.define(), 1);
        due("define() of 8 letters", () -> Checks.define(y, "abcdefgh=a"), 2);
        due("define() uses 8 letters", () -> Checks.define(y, "q=abcdefgh"), 3);
        due("define() of a beginning of a name", () -> Checks.define(y, "abcdefg=a"), 4);
        due("define() of a word that begins as a selector", () -> Checks.define(y, "allx=a"), 5);
    }

    private static void tokens() {
        due("blanks", () -> Checks.define(new FigureCaller(), "  a  =  2  (  all   tl  ,  leads  fwd  )  ;  all tr  "), 0);
        due("no blanks", () -> Checks.define(new FigureCaller(), "a=2(all tl,leads fwd);all tr"), 0);
        due("the longest text", () -> Checks.define(new FigureCaller(), "a=all tl" + " ".repeat(92)), 0);
        due("the most parts", () -> Checks.define(new FigureCaller(), "a=all tl" + ",all tl".repeat(13)), 0);
        due("every selector", () -> Checks.define(new FigureCaller(),
            "a=all tl,leads tl,follows tl,heads tl,sides tl,north tl,east tl,south tl,west tl"), 0);
        due("every other selector", () -> Checks.define(new FigureCaller(),
            "a=centres tl,ends tl,front tl,rear tl"), 0);
        due("every atom", () -> Checks.define(new FigureCaller(),
            "a=all stay;all fwd;all back;all left;all right;all tl;all tr"), 0);
    }

    private static void faultOf(String text, int want) {
        FigureCaller x = Checks.with("old=all tl");
        CHECKS.illegalArgument("define() of " + text, () -> Checks.define(x, text));
        due("fault() of " + text, () -> x.fault(), want);
        due("wipe() of " + text, () -> x.wipe(), text.length());
    }

    // Promise 5, and what the reading's end is.
    private static void faults() {
        faultOf("", 0);
        faultOf("   ", 3);
        faultOf("a", 1);
        faultOf("a  ", 3);
        faultOf("a=", 2);
        faultOf("a=all", 5);
        faultOf("a=all tl;", 9);
        faultOf("a=all tl ,  ", 12);
        faultOf("a=2", 3);
        faultOf("a=2(", 4);
        faultOf("a=2(old", 7);
        faultOf("a=2(all tl ", 11);
        faultOf(" old=all tl", 1);
        faultOf("all=all tl", 0);
        faultOf("rear=all tl", 0);
        faultOf("stay=all tl", 0);
        faultOf("tr=all tl", 0);
        faultOf("abcdefghi=all tl", 0);
        faultOf("2=all tl", 0);
        faultOf("=all tl", 0);
        faultOf("(", 0);
        faultOf("A=all tl", 0);
        faultOf("aB=all tl", 1);
        faultOf("a b=all tl", 2);
        faultOf("a2=all tl", 1);
        faultOf("a==", 2);
        faultOf("a=tl", 2);
        faultOf("a=a", 2);
        faultOf("a=oldold", 2);
        faultOf("a=ol", 2);
        faultOf("a=new", 2);
        faultOf("a=;", 2);
        faultOf("a=all all", 6);
        faultOf("a=all old", 6);
        faultOf("a=all 2", 6);
        faultOf("a=alltl", 2);
        faultOf("a=all tlall", 6);
        faultOf("a=all tl all tl", 9);
        faultOf("a=all tl;;", 9);
        faultOf("a=all tl,old", 9);
        faultOf("a=all tl,2(old)", 9);
        faultOf("a=all tl,;", 9);
        faultOf("a=old,all tl", 5);
        faultOf("a=old old", 6);
        faultOf("a=old)", 5);
        faultOf("a=all tl)", 8);
        faultOf("a=2(old))", 8);
        faultOf("a=2(old),all tl", 8);
        faultOf("a=2(old)old", 8);
        faultOf("a=2()", 4);
        faultOf("a=(old)", 2);
        faultOf("a=1(old)", 2);
        faultOf("a=5(old)", 2);
        faultOf("a=0(old)", 2);
        faultOf("a=02(old)", 2);
        faultOf("a=22(old)", 2);
        faultOf("a=2 2(old)", 4);
        faultOf("a=2old", 3);
        faultOf("a=2;", 3);
        faultOf("a=2((old))", 4);
        faultOf("a=old.", 5);
        faultOf("a=old .", 6);
        faultOf("a=all tl#", 8);
        faultOf("a=nobody#", 2);
        faultOf("a=old;#", 6);
        faultOf("a=old-", 5);
        faultOf("~", 0);
        // Nothing behind a number within three brackets could make it a call.
        faultOf("a=2(2(2(2(old))))", 8);
        faultOf("a=2(2(2(old;3(old))))", 12);
        faultOf("a=2(2(2(2", 8);
        due("three brackets", () -> Checks.define(Checks.with("old=all tl"), "a=2(2(2(old)))"), 1);
        due("brackets side by side", () -> Checks.define(Checks.with("old=all tl"), "a=2(2(old);2(old));2(2(old))"), 1);
    }

    private static void limits() {
        due("16 beats", () -> Checks.define(Checks.with("old=all tl"), "a=4(4(old))"), 1);
        faultOf("a=4(4(old));old", 15);
        faultOf("a=old;4(4(old)) ", 16);
        faultOf("a=4(4(4(old)))", 14);
        faultOf("a=4(4(all tl;all tr))", 21);
        faultOf("a=3(3(2(old)))", 14);
        faultOf("a=4(4(4(old)))#", 14);
        faultOf("a=4(4(old));old;tl", 16);
        FigureCaller x = Checks.with("o=4(4(all tl))");
        CHECKS.illegalArgument("17 beats by a call", () -> Checks.define(x, "a=o;all tl"));
        due("17 beats by a call: fault()", () -> x.fault(), 10);
        CHECKS.illegalArgument("thousands of beats", () -> Checks.define(x, "a=4(4(4(" + "o;".repeat(44) + "o)))"));
        due("thousands of beats: fault()", () -> x.fault(), 100);
        due("16 beats by a call", () -> Checks.define(x, "a=o"), 1);

        FigureCaller y = Checks.with("a=all tl", "b=a", "c=b;a", "d=a;c", "e=d", "f=a;2(e)");
        due("6 deep", () -> y.beats(5), 7);
        CHECKS.illegalArgument("7 deep", () -> Checks.define(y, "g=2(f) "));
        due("7 deep: fault()", () -> y.fault(), 7);
        due("6 deep again", () -> Checks.define(y, "g=e;a"), 6);
        CHECKS.illegalArgument("7 deep, within a bracket", () -> Checks.define(y, "h=2(all tl;g)"));
    }

    private static void fault() {
        FigureCaller x = Checks.with("a=all tl");
        CHECKS.illegalArgument("a first fault", () -> Checks.define(x, "b=b"));
        x.wipe();
        due("fault() stays behind wipe()", () -> x.fault(), 2);
        x.dance(0);
        due("fault() stays behind dance()", () -> x.fault(), 2);
        CHECKS.illegalArgument("a second fault", () -> Checks.define(x, "b=all tl)"));
        due("fault() is the latest", () -> x.fault(), 8);
        Checks.define(x, "b=all tl");
        due("fault() behind a call", () -> x.fault(), -1);
        for (int i = 2; i < 12; i++) {
            Checks.define(x, (char) ('a' + i) + "=a");
        }
        CHECKS.illegalArgument("a third fault", () -> Checks.define(x, "="));
        CHECKS.illegalState("a thirteenth call", () -> Checks.define(x, "z=a"));
        due("fault() behind an illegal state", () -> x.fault(), -1);
    }

    // Promise 6.
    private static void beats() {
        FigureCaller x = Checks.with("a=all tl,leads fwd", "b=a;all tl;a", "c=3(b;2(a));a");
        due("beats of a beat", () -> x.beats(0), 1);
        due("beats of steps", () -> x.beats(1), 3);
        due("beats of brackets", () -> x.beats(2), 16);
        CHECKS.illegalArgument("beats(3)", () -> x.beats(3));
        CHECKS.illegalArgument("beats(-1)", () -> x.beats(-1));
        CHECKS.illegalArgument("beats(least)", () -> x.beats(Integer.MIN_VALUE));
        CHECKS.illegalArgument("beats(most)", () -> x.beats(Integer.MAX_VALUE));
    }

    // Promise 7.
    private static void dance() {
        FigureCaller x = Checks.with("out=all back", "far=4(all back)", "spin=4(4(all tl))");
        due("dance(0)", () -> x.dance(0), 1);
        due("danced out", () -> Checks.floor(x), "420 520 743 753 572 472 251 241");
        due("dance(2)", () -> x.dance(2), 16);
        CHECKS.illegalState("dance(1) leaves the floor", () -> x.dance(1));
        due("nothing of it is danced", () -> Checks.floor(x), "420 520 743 753 572 472 251 241");
        CHECKS.illegalArgument("dance(3)", () -> x.dance(3));
        CHECKS.illegalArgument("dance(-1)", () -> x.dance(-1));
        due("the journal has what was danced", () -> x.home(), 2);

        for (int i = 0; i < 24; i++) {
            x.dance(2);
        }
        CHECKS.illegalState("dance() with a full journal", () -> x.dance(2));
        CHECKS.illegalArgument("dance() of none with a full journal", () -> x.dance(3));
        x.undo();
        due("dance() with one place in it", () -> x.dance(2), 16);
        due("24 calls", () -> x.home(), 24);

        FigureCaller first = Checks.with("a=heads back,leads tl,all tr");
        first.dance(0);
        due("the first part counts", () -> Checks.floor(first), "420 520 642 650 572 472 350 342");
        FigureCaller none = Checks.with("a=north back");
        none.dance(0);
        due("who has no part stays", () -> Checks.floor(none), "420 520 643 653 562 462 351 341");
    }

    private static void atoms() {
        atomsOf("north", "430 530", "440 540", "420 520", "330 430", "530 630", "433 533", "431 531");
        atomsOf("west", "643 653", "543 553", "743 753", "633 643", "653 663", "642 652", "640 650");
        atomsOf("south", "562 462", "552 452", "572 472", "662 562", "462 362", "561 461", "563 463");
        atomsOf("east", "351 341", "451 441", "251 241", "361 351", "341 331", "350 340", "352 342");
    }

    /** What each atom makes of the two who face so at home, and of nobody else. */
    private static void atomsOf(String facing, String athome, String... due) {
        String[] words = {"fwd", "back", "left", "right", "tl", "tr"};
        for (int i = 0; i < words.length; i++) {
            FigureCaller x = Checks.with("a=" + facing + " " + words[i]);
            x.dance(0);
            due(facing + " " + words[i], () -> Checks.floor(x), HOME.replace(athome, due[i]));
        }
        FigureCaller stays = Checks.with("a=" + facing + " stay");
        stays.dance(0);
        due(facing + " stay", () -> Checks.floor(stays), HOME);
    }

    private static void selectorsAreTaken() {
        FigureCaller once = Checks.with("a=all tl;north back");
        once.dance(0);
        due("a call's selectors are taken once", () -> Checks.floor(once), "533 633 642 652 561 461 350 340");
        FigureCaller anew = Checks.with("n=north back", "a=all tl;n;all tr");
        anew.dance(1);
        due("an older call's are taken anew", () -> Checks.floor(anew), "430 530 643 653 562 462 341 331");
        FigureCaller each = Checks.with("n=north tl", "a=2(n;all tr)");
        each.dance(1);
        due("and each time anew", () -> Checks.floor(each), "430 530 640 650 560 460 353 343");
        FigureCaller own = Checks.with("t=all tr", "a=t;2(north tl);t");
        own.dance(1);
        due("a call's are taken before an older call that it begins with", () -> Checks.floor(own),
            "430 530 641 651 560 460 353 343");
        FigureCaller deeper = Checks.with("n=north back", "m=all tr;n", "a=all tr;m");
        deeper.dance(2);
        due("a call's within a call within it, before its own first beat", () -> Checks.floor(deeper),
            "432 532 641 651 550 450 353 343");
        FigureCaller bracket = Checks.with("a=3(north tl)");
        bracket.dance(0);
        due("a bracket's are the call's", () -> Checks.floor(bracket), "431 531 643 653 562 462 351 341");
    }

    private static void clashOf(String text, int want, String... before) {
        FigureCaller x = Checks.with(text);
        for (String call : before) {
            x.dance(Checks.define(x, call));
        }
        String floor = Checks.floor(x);
        String got = Checks.answer(() -> x.dance(0));
        due(text + ": throws", () -> got, want == 0 ? String.valueOf(x.beats(0)) : "throws.IllegalStateException");
        due(text + ": clash()", () -> x.clash(), want);
        if (want != 0) {
            due(text + ": nobody has moved", () -> Checks.floor(x), floor);
        }
    }

    private static void clashes() {
        clashOf("a=3(all back)", 0);
        for (String facing : new String[] {"all", "heads", "north", "south", "east", "west"}) {
            clashOf("a=4(" + facing + " back)", 41);
        }
        clashOf("a=all stay;all fwd", 22);
        clashOf("a=leads right", 12);
        // Side by side, or one behind the other, nobody may have the other's spot.
        clashOf("a=leads right,follows left", 13);
        clashOf("a=leads fwd,follows back", 13, "t=heads tr");
        clashOf("a=leads back,follows fwd", 13, "t=heads tl");
        clashOf("a=leads tr,follows tr;leads fwd,follows back", 23);
        // Face to face, or back to back, they may.
        clashOf("a=2(heads fwd)", 0);
        clashOf("a=2(heads fwd);2(heads back)", 0);
        clashOf("a=leads tr,follows tl;all fwd", 0);
        clashOf("a=leads tl,follows tr;all back", 0);
        // How they face behind the beat, or before the one before, does not count.
        clashOf("a=leads tr,follows tl;all stay;leads tl,follows tr;leads right,follows left", 43);
        // Who goes where somebody leaves is in nobody's way.
        clashOf("a=north right", 0);
        // Who would leave the floor comes before two at one spot, and these before two who cross.
        clashOf("a=north back,follows left", 11, "b=3(north back)");
        clashOf("a=north back,follows left,leads right", 11, "b=3(north back)");
        clashOf("a=follows left,heads right", 12);
    }

    // Promise 8.
    private static void backward() {
        FigureCaller x = Checks.with("out=all back;all tl", "n=north back", "m=all stay;n;all tr");
        due("backward(0)", () -> x.backward(0), 2);
        due("the last beat is first, atoms exchanged", () -> Checks.floor(x), "531 631 650 660 463 363 342 332");
        x.home();
        x.dance(0);
        x.backward(0);
        due("there and back", () -> Checks.floor(x), HOME);
        due("both are in the journal", () -> x.home(), 2);
        due("backward(2)", () -> x.backward(2), 3);
        due("all selectors are taken before", () -> Checks.floor(x), "333 433 642 652 561 461 350 340");

        FigureCaller exchange = Checks.with("a=heads left", "b=heads right", "c=heads tr", "d=heads stay,all fwd");
        exchange.backward(0);
        due("left is right", () -> Checks.floor(exchange), "530 630 643 653 462 362 351 341");
        exchange.backward(1);
        exchange.backward(2);
        exchange.backward(3);
        due("right is left, tr is tl", () -> Checks.floor(exchange), "433 533 743 753 561 461 251 241");

        FigureCaller y = Checks.with("cross=leads left,follows right", "in=all fwd;all stay", "far=4(all fwd)", "s=all stay");
        due("backward(1)", () -> y.backward(1), 2);
        due("backward(1) goes out", () -> Checks.floor(y), "420 520 743 753 572 472 251 241");
        CHECKS.illegalState("backward(2) leaves the floor", () -> y.backward(2));
        due("backward(2) at its third beat", () -> y.clash(), 31);
        CHECKS.illegalState("backward(0) crosses", () -> y.backward(0));
        due("backward(0) at its first beat", () -> y.clash(), 13);
        CHECKS.illegalArgument("backward(4)", () -> y.backward(4));
        CHECKS.illegalArgument("backward(-1)", () -> y.backward(-1));
        due("nothing of these is danced", () -> y.home(), 1);
        for (int i = 0; i < 24; i++) {
            y.backward(3);
        }
        CHECKS.illegalState("backward() with a full journal", () -> y.backward(3));
        CHECKS.illegalArgument("backward() of none with a full journal", () -> y.backward(4));
        due("24 calls", () -> y.home(), 24);
    }

    // Promise 9.
    private static void clash() {
        FigureCaller x = Checks.with("bad=all stay;all fwd", "off=4(all back)", "good=all stay",
            "apart=leads right,follows left;2(all stay)");
        CHECKS.illegalState("dance(0)", () -> x.dance(0));
        due("clash() of the second beat", () -> x.clash(), 22);
        CHECKS.illegalArgument("dance(9)", () -> x.dance(9));
        due("clash() stays behind an illegal argument", () -> x.clash(), 22);
        CHECKS.illegalState("dance(1)", () -> x.dance(1));
        due("clash() of the fourth beat", () -> x.clash(), 41);
        CHECKS.illegalState("backward(3)", () -> x.backward(3));
        due("clash() of the first beat, which comes third", () -> x.clash(), 32);
        x.home();
        x.resolve();
        x.same(0, 1);
        CHECKS.illegalState("undo()", () -> x.undo());
        due("clash() stays behind others", () -> x.clash(), 32);
        x.dance(2);
        due("clash() behind a dance", () -> x.clash(), 0);
        CHECKS.illegalState("dance(1) again", () -> x.dance(1));
        x.undo();
        due("clash() stays behind undo()", () -> x.clash(), 41);
        x.backward(2);
        due("clash() behind a backward dance", () -> x.clash(), 0);
        for (int i = 1; i < 24; i++) {
            x.dance(2);
        }
        CHECKS.illegalState("a full journal", () -> x.dance(1));
        due("clash() of a full journal is none", () -> x.clash(), 0);
        x.undo();
        CHECKS.illegalState("dance(1) of the last place", () -> x.dance(1));
        x.dance(2);
        CHECKS.illegalState("a full journal again", () -> x.backward(1));
        due("clash() behind a dance again", () -> x.clash(), 0);
    }

    // Promise 10.
    private static void undo() {
        FigureCaller x = Checks.with("out=all back;all tl", "turn=3(all tr)");
        x.dance(0);
        String out = Checks.floor(x);
        x.backward(1);
        due("undo() of a backward dance", () -> x.undo(), 3);
        due("all stand as before it", () -> Checks.floor(x), out);
        due("undo() of a dance", () -> x.undo(), 2);
        due("all are home", () -> Checks.floor(x), HOME);
        CHECKS.illegalState("undo() of none", () -> x.undo());
        x.dance(0);
        x.home();
        CHECKS.illegalState("undo() behind home()", () -> x.undo());
    }

    // Promise 11.
    private static void home() {
        FigureCaller x = Checks.with("out=all back;all tl");
        x.dance(0);
        x.backward(0);
        x.dance(0);
        due("home()", () -> x.home(), 3);
        due("home() brings home", () -> Checks.floor(x), HOME);
        due("home() again", () -> x.home(), 0);
        due("home() keeps the calls", () -> x.beats(0), 2);
    }

    // Promise 12.
    private static void where() {
        FigureCaller x = Checks.with("out=3(all back);all tr");
        due("where(2, 0)", () -> x.where(2, 0), 6);
        due("where(2, 1)", () -> x.where(2, 1), 4);
        due("where(2, 2)", () -> x.where(2, 2), 3);
        x.dance(0);
        due("where all are", () -> Checks.floor(x), "401 501 940 950 593 493 052 042");
        CHECKS.illegalArgument("where(8, 0)", () -> x.where(8, 0));
        CHECKS.illegalArgument("where(-1, 0)", () -> x.where(-1, 0));
        CHECKS.illegalArgument("where(0, 3)", () -> x.where(0, 3));
        CHECKS.illegalArgument("where(0, -1)", () -> x.where(0, -1));
    }

    // Promise 13.
    private static void stood() {
        FigureCaller x = Checks.with("out=all back;all tl;all stay", "in=all fwd");
        CHECKS.outOfBounds("stood(0, 0) of no call", () -> x.stood(0, 0));
        CHECKS.illegalArgument("stood(0, 8) of no call", () -> x.stood(0, 8));
        x.dance(0);
        due("stood(0, 2)", () -> x.stood(0, 2), 46);
        due("stood(1, 2)", () -> x.stood(1, 2), 47);
        due("stood(3, 2)", () -> x.stood(3, 2), 47);
        CHECKS.outOfBounds("stood(4, 2)", () -> x.stood(4, 2));
        CHECKS.outOfBounds("stood(-1, 2)", () -> x.stood(-1, 2));
        CHECKS.illegalArgument("stood(4, 8)", () -> x.stood(4, 8));
        CHECKS.illegalArgument("stood(0, -1)", () -> x.stood(0, -1));
        x.backward(0);
        due("stood(0, 0) backward", () -> x.stood(0, 0), 24);
        due("stood(2, 0) backward", () -> x.stood(2, 0), 24);
        due("stood(3, 0) backward", () -> x.stood(3, 0), 34);
        CHECKS.illegalState("a dance that fails", () -> x.dance(1));
        due("stood(0, 0) behind one that fails", () -> x.stood(0, 0), 24);
        x.undo();
        due("stood(0, 0) of the call before", () -> x.stood(0, 0), 34);
        due("stood(1, 0) of the call before", () -> x.stood(1, 0), 24);
        x.home();
        CHECKS.outOfBounds("stood(0, 0) behind home()", () -> x.stood(0, 0));
    }

    private static void selectors(FigureCaller x, String what, String... due) {
        for (int i = 0; i < 13; i++) {
            int selector = i;
            due(what + ": selector " + i, () -> Checks.selected(x, selector), due[i]);
        }
    }

    // Promise 14.
    private static void select() {
        FigureCaller x = Checks.with("in=heads fwd", "out=west back", "turn=all tr");
        selectors(x, "home", "01234567", "0246", "1357", "0145", "2367", "01", "67", "45", "23",
            "0127", "3456", "", "01234567");
        x.dance(2);
        selectors(x, "turned", "01234567", "0246", "1357", "0145", "2367", "23", "01", "67", "45",
            "0127", "3456", "1357", "0246");
        x.home();
        x.dance(0);
        x.dance(1);
        selectors(x, "heads in, two out", "01234567", "0246", "1357", "0145", "2367", "01", "67", "45", "23",
            "0145", "2367", "", "01234567");
        CHECKS.illegalArgument("select(13, 0)", () -> x.select(13, 0));
        CHECKS.illegalArgument("select(-1, 0)", () -> x.select(-1, 0));
        CHECKS.illegalArgument("select(0, 8)", () -> x.select(0, 8));
        CHECKS.illegalArgument("select(0, -1)", () -> x.select(0, -1));
    }

    private static void shapeOf(int want, String... calls) {
        FigureCaller x = new FigureCaller();
        for (String call : calls) {
            x.dance(Checks.define(x, call));
        }
        due("shape behind " + String.join(" | ", calls), () -> x.shape(), want);
    }

    // Promise 15.
    private static void shape() {
        shapeOf(3);
        shapeOf(3, "a=all tr");
        shapeOf(0, "a=all back");
        shapeOf(0, "a=north back");
        shapeOf(0, "a=north left");
        shapeOf(0, "a=follows stay,north fwd");
        shapeOf(2, "a=heads fwd");
        shapeOf(2, "a=sides fwd");
        shapeOf(0, "a=heads fwd;north back");

        String[] row = {"in=heads fwd", "a=2(heads stay,leads stay,west back;heads stay,follows stay,east back)",
            "b=2(north stay,sides stay,leads left,all right)",
            "c=heads stay,leads stay,west left;heads stay,follows stay,east right;south fwd"};
        shapeOf(1, row);
        shapeOf(0, row[0], row[1], row[2], row[3], "gap=heads stay,leads stay,west back");
        String[] column = {"in=sides fwd", "a=2(sides stay,follows stay,north back;sides stay,leads stay,south back)",
            "b=2(heads stay,west stay,leads left,all right)",
            "c=sides stay,follows stay,north right;sides stay,leads stay,south left;east fwd"};
        shapeOf(1, column);
        shapeOf(0, column[0], column[1], column[2], column[3], "gap=sides stay,leads stay,south back");

        String[] frame = {"a=south fwd,leads stay,east fwd", "b=3(heads stay,follows stay,east right)",
            "c=3(heads stay,follows stay,east fwd);heads stay,follows stay,east left"};
        shapeOf(4, frame);
        shapeOf(0, frame[0], frame[1], frame[2], "middle=leads stay,east fwd");
    }

    private static FigureCaller withSeven() {
        return Checks.with("a=all tl", "b=all tr", "c=all back", "d=all fwd", "e=all stay", "f=a;a", "g=b;b");
    }

    // Promise 16.
    private static void allow() {
        FigureCaller x = withSeven();
        for (int i = 0; i < 5; i++) {
            allowed(x, i, true, "done");
        }
        allowed(x, 5, true, "throws.IllegalStateException");
        // The document makes no difference here between yes and no.
        allowed(x, 6, false, "throws.IllegalStateException");
        allowed(x, 7, true, "throws.IllegalArgumentException");
        allowed(x, -1, false, "throws.IllegalArgumentException");
        allowed(x, 4, true, "done");
        allowed(x, 4, false, "done");
        allowed(x, 4, false, "done");
        allowed(x, 6, true, "done");
        allowed(x, 4, true, "throws.IllegalStateException");
        x.backward(5);
        due("the calls refused are not allowed", () -> x.resolve(), 1);
        due("the call allowed is", () -> x.way(0), 6);
        allowed(x, 6, false, "done");
        due("a call taken back is not allowed", () -> x.resolve(), 2);
    }

    private static void allowed(FigureCaller x, int call, boolean yes, String want) {
        due("allow(" + call + ", " + yes + ")", () -> {
            x.allow(call, yes);
            return "done";
        }, want);
    }

    // Promise 17.
    private static void resolve() {
        FigureCaller x = withSeven();
        due("resolve() at home", () -> x.resolve(), 0);
        x.dance(2);
        due("resolve() with none allowed", () -> x.resolve(), -1);
        x.allow(3, true);
        due("resolve() by one", () -> x.resolve(), 1);
        String floor = Checks.floor(x);
        due("resolve() again", () -> x.resolve(), 1);
        due("resolve() moves nobody", () -> Checks.floor(x), floor);
        due("resolve() adds nothing to the journal", () -> x.home(), 1);
        x.dance(2);
        x.dance(0);
        due("resolve() without home's facings", () -> x.resolve(), -1);
        x.allow(1, true);
        due("resolve() with them", () -> x.resolve(), 2);
        x.home();
        x.dance(2);
        x.dance(2);
        x.dance(0);
        x.dance(0);
        due("resolve() by four", () -> x.resolve(), 4);
        x.home();
        x.dance(2);
        x.dance(2);
        x.dance(2);
        x.dance(0);
        x.dance(0);
        due("resolve() by none of at most four", () -> x.resolve(), -1);

        FigureCaller y = Checks.with("spin=all tr", "five=3(all tl)", "s=all stay");
        y.allow(2, true);
        y.dance(0);
        due("resolve() by no stay", () -> y.resolve(), -1);
        y.allow(0, true);
        due("resolve() by three of one", () -> y.resolve(), 3);
        for (int i = 1; i < 24; i++) {
            y.dance(2);
        }
        due("resolve() with a full journal", () -> y.resolve(), 3);
    }

    private static String wayOf(FigureCaller x) {
        StringBuilder row = new StringBuilder();
        int length = x.resolve();
        for (int i = 0; i < length; i++) {
            row.append(x.way(i)).append(' ');
        }
        return row.toString().trim();
    }

    // Promise 18.
    private static void way() {
        FigureCaller x = withSeven();
        CHECKS.outOfBounds("way(0) before resolve()", () -> x.way(0));
        x.allow(0, true);
        x.allow(1, true);
        x.allow(3, true);
        x.dance(2);
        x.dance(2);
        x.dance(0);
        x.dance(0);
        due("of ways as long the least", () -> wayOf(x), "0 0 3 3");
        CHECKS.outOfBounds("way(4)", () -> x.way(4));
        CHECKS.outOfBounds("way(-1)", () -> x.way(-1));
        x.home();
        due("way(3) stays till the next resolve()", () -> x.way(3), 3);
        x.resolve();
        CHECKS.outOfBounds("way(0) at home", () -> x.way(0));
        x.dance(2);
        x.dance(0);
        due("a turn first, then in", () -> wayOf(x), "1 3");
        x.allow(3, false);
        x.resolve();
        CHECKS.outOfBounds("way(0) without a way", () -> x.way(0));

        FigureCaller y = Checks.with("r=all tr", "l=all tl", "rr=r;r");
        y.allow(0, true);
        y.allow(1, true);
        y.dance(2);
        due("the least of two by two", () -> wayOf(y), "0 0");
        y.allow(2, true);
        due("a shorter way is better than a lesser one", () -> wayOf(y), "2");
    }

    // Promise 19.
    private static void same() {
        FigureCaller x = Checks.with("a=all tl;all tl", "b=2(all tr)", "c=all fwd", "d=leads right,follows left",
            "e=all stay", "f=all tr", "g=north stay", "h=heads fwd", "i=north fwd,south fwd", "j=4(all fwd)",
            "k=north tl", "l=heads tl,all stay");
        due("the same by two turns", () -> x.same(0, 1), true);
        due("the same call", () -> x.same(5, 5), true);
        due("no facings alike", () -> x.same(0, 5), false);
        due("stays", () -> x.same(4, 6), true);
        due("the same from home, but not turned", () -> x.same(7, 8), false);
        due("one fails, one does not", () -> x.same(2, 4), false);
        due("the same spots, not the same facings", () -> x.same(4, 5), false);
        due("different turned", () -> x.same(10, 11), false);
        CHECKS.illegalArgument("same(0, 12)", () -> x.same(0, 12));
        CHECKS.illegalArgument("same(12, 0)", () -> x.same(12, 0));
        CHECKS.illegalArgument("same(-1, 0)", () -> x.same(-1, 0));
        FigureCaller y = Checks.with("a=4(2(all back))", "b=all stay;4(2(heads back))", "c=4(2(sides back))", "d=all stay");
        due("both fail wherever they begin", () -> y.same(0, 1), true);
        due("both fail wherever they begin, too", () -> y.same(1, 2), true);
        due("one fails wherever it begins", () -> y.same(0, 3), false);
        due("the other fails wherever it begins", () -> y.same(3, 0), false);
        due("same() moves nobody", () -> Checks.floor(y), HOME);
    }

    private static FigureCaller busy() {
        FigureCaller x = withSeven();
        x.allow(0, true);
        x.allow(1, true);
        x.allow(3, true);
        x.allow(5, true);
        x.allow(6, true);
        x.dance(2);
        x.backward(0);
        x.resolve();
        Checks.write(x, "bad=all tl;4(4(4(all fwd)))");
        return x;
    }

    private static FigureCaller full() {
        FigureCaller x = busy();
        x.wipe();
        for (int i = 0; i < 22; i++) {
            x.dance(4);
        }
        for (int i = 7; i < 12; i++) {
            Checks.define(x, (char) ('a' + i) + "=2(a)");
        }
        Checks.write(x, "more=all tl");
        return x;
    }

    private static FigureCaller empty() {
        FigureCaller x = busy();
        x.home();
        return x;
    }

    private static void throwsChangeNothing() {
        CHECKS.changesNothing("define() of none", PromisesTest::busy, x -> x.define());
        CHECKS.changesNothing("define() of a thirteenth", PromisesTest::full, x -> x.define());
        CHECKS.changesNothing("beats(7)", PromisesTest::busy, x -> x.beats(7));
        CHECKS.changesNothing("dance(7)", PromisesTest::busy, x -> x.dance(7));
        CHECKS.changesNothing("dance() that fails", PromisesTest::empty, x -> x.dance(3));
        CHECKS.changesNothing("dance() behind a full journal", PromisesTest::full, x -> x.dance(0));
        CHECKS.changesNothing("backward(-1)", PromisesTest::busy, x -> x.backward(-1));
        CHECKS.changesNothing("backward() that fails", PromisesTest::empty, x -> x.backward(2));
        CHECKS.changesNothing("backward() behind a full journal", PromisesTest::full, x -> x.backward(0));
        CHECKS.changesNothing("undo()", PromisesTest::empty, x -> x.undo());
        CHECKS.changesNothing("where(8, 0)", PromisesTest::busy, x -> x.where(8, 0));
        CHECKS.changesNothing("where(0, 3)", PromisesTest::busy, x -> x.where(0, 3));
        CHECKS.changesNothing("stood(0, 8)", PromisesTest::busy, x -> x.stood(0, 8));
        CHECKS.changesNothing("stood(17, 0)", PromisesTest::busy, x -> x.stood(17, 0));
        CHECKS.changesNothing("select(13, 0)", PromisesTest::busy, x -> x.select(13, 0));
        CHECKS.changesNothing("allow(7)", PromisesTest::busy, x -> x.allow(7, true));
        CHECKS.changesNothing("allow() of a sixth", PromisesTest::busy, x -> x.allow(2, true));
        CHECKS.changesNothing("way(4)", PromisesTest::busy, x -> x.way(4));
        CHECKS.changesNothing("same(0, 7)", PromisesTest::busy, x -> x.same(0, 7));
    }
}
