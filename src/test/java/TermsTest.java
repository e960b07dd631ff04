import java.io.IOException;

/** Each sentence of the document's Terms, at its boundaries, with the promises that it belongs to. */
public final class TermsTest extends Sentences {
    private static final String HOME = "430 530 643 653 562 462 351 341";
    // All face north, and stand where they stand at home.
    private static final String ALL_NORTH = "n=west tr,east tl,south tl;south tl";
    private static final String[] SELECTORS = {"all", "leads", "follows", "heads", "sides", "north", "east", "south",
        "west", "centres", "ends", "front", "rear"};
    private static final String[] ATOMS = {"stay", "fwd", "back", "left", "right", "tl", "tr"};

    private TermsTest() throws IOException {
    }

    public static void main(String[] args) throws IOException {
        TermsTest test = new TermsTest();
        test.floor();
        test.atoms();
        test.leavingTheFloor();
        test.meeting();
        test.crossing();
        test.selectorsOfFixedDancers();
        test.centresAndEnds();
        test.frontAndRear();
        test.text();
        test.tokens();
        test.grammar();
        test.names();
        test.brackets();
        test.fault();
        test.beatsAndDepth();
        test.dancing();
        test.selectorsAreTaken();
        test.backward();
        test.journal();
        test.exceptions();
        test.end("Terms");
    }

    private void floor() {
        sentence("Terms, promises 7 and 12", "THE FLOOR has spots (x, y) with x and y from 0 to 9.");
        behind("400 500 943 953 592 492 051 041", "a=3(all back)");
        corner("0 at (0, 0)", "north", "leads", "left", 0, 0);
        corner("1 at (9, 0)", "north", "follows", "right", 1, 9);
        corner("4 at (9, 9)", "south", "leads", "left", 4, 99);
        corner("5 at (0, 9)", "south", "follows", "right", 5, 90);

        sentence("Terms, promises 7 and 12", "FACINGS: 0 north (to greater y), 1 east (to greater x), 2 south, 3 west.");
        behind("440 540 643 653 562 462 351 341", "a=north fwd");
        behind("430 530 643 653 562 462 451 441", "a=east fwd");
        behind("430 530 643 653 552 452 351 341", "a=south fwd");
        behind("430 530 543 553 562 462 351 341", "a=west fwd");

        sentence("Terms, promises 12, 13 and 14", "DANCERS are 0 .. 7.");
        FigureCaller x = danced("a=all stay");
        due("where(0, 0)", () -> x.where(0, 0), 4);
        due("where(7, 0)", () -> x.where(7, 0), 3);
        due("stood(0, 7)", () -> x.stood(0, 7), 43);
        due("select(0, 7)", () -> x.select(0, 7), true);
        illegalArgument("where(8, 0)", () -> x.where(8, 0));
        illegalArgument("stood(0, 8)", () -> x.stood(0, 8));
        illegalArgument("select(0, 8)", () -> x.select(0, 8));

        sentence("Terms, promises 1 and 11", "HOME: 0 stands at (4, 3), 1 at (5, 3), both facing north; 2 at (6, 4), "
            + "3 at (6, 5), west; 4 at (5, 6), 5 at (4, 6), south; 6 at (3, 5), 7 at (3, 4), east.");
        floor("a new object", new FigureCaller(), HOME);
    }

    private void corner(String what, String facing, String who, String aside, int dancer, int spot) {
        String others = who.equals("leads") ? "follows" : "leads";
        String one = "(sides stay," + others + " stay," + facing + " ";
        FigureCaller x = danced("a=4" + one + aside + ");3" + one + "back)");
        due(what, () -> 10 * x.where(dancer, 1) + x.where(dancer, 0), spot);
        due(what + " by stood()", () -> x.stood(7, dancer), spot);
        illegalState(what + ": no spot behind it", () -> x.dance(Checks.define(x, "b=" + facing + " back")));
        illegalState(what + ": no spot beside it", () -> x.dance(Checks.define(x, "c=" + facing + " " + aside)));
    }

    private void atoms() {
        sentence("Terms, promises 7 and 12", "In a BEAT each dancer does one ATOM: stay; fwd, back, left, right: goes to the "
            + "next spot before, behind, to the left, to the right, facing as before; tl, tr: turns a quarter to the left, "
            + "to the right, on the spot.");
        atomsOf("north", "430 530", "430 530", "440 540", "420 520", "330 430", "530 630", "433 533", "431 531");
        atomsOf("west", "643 653", "643 653", "543 553", "743 753", "633 643", "653 663", "642 652", "640 650");
        atomsOf("south", "562 462", "562 462", "552 452", "572 472", "662 562", "462 362", "561 461", "563 463");
        atomsOf("east", "351 341", "351 341", "451 441", "251 241", "361 351", "341 331", "350 340", "352 342");
        behind(HOME, "a=4(all tl)");
        behind(HOME, "a=4(all tr)");
        behind("433 533 642 652 561 461 350 340", "a=all tr;all tl;all tl");
    }

    /** What each atom makes of the two who face so at home, and of nobody else. */
    private void atomsOf(String facing, String atHome, String... wants) {
        for (int i = 0; i < ATOMS.length; i++) {
            behind(HOME.replace(atHome, wants[i]), "a=" + facing + " " + ATOMS[i]);
        }
    }

    private void leavingTheFloor() {
        sentence("Terms, promises 7, 8 and 9", "A beat FAILS, with a CLASH of 1, if a dancer would leave the floor;");
        for (int turns = 0; turns < 4; turns++) {
            for (String atom : new String[] {"fwd", "back", "left", "right"}) {
                leaves(turns, atom);
            }
        }
        clashOf(11, "a=sides stay,follows stay,north back", "3(sides stay,follows stay,north back)");
        // Two at one spot, and two who cross, do not matter beside one who leaves.
        clashOf(11, "a=north back,follows left", "3(north back)");
        clashOf(11, "a=north back,sides stay,follows left,leads right", "3(north back)");
        clashOf(11, "a=south back,follows left", "3(south back)");
    }

    private void leaves(int turns, String atom) {
        FigureCaller x = danced(ALL_NORTH);
        int turn = Checks.define(x, "t=all tr");
        int go = Checks.define(x, "go=all " + atom);
        int along = Checks.define(x, "l=all " + (atom.equals("fwd") || atom.equals("back") ? "left" : "back"));
        for (int i = 0; i < turns; i++) {
            x.dance(turn);
        }
        String what = turns + " turns, " + atom;
        for (int i = 1; i <= 3; i++) {
            due(what + " " + i, () -> x.dance(go), 1);
        }
        illegalState(what + " 4", () -> x.dance(go));
        due(what + ": clash()", () -> x.clash(), 11);
        due(what + ": along the edge", () -> x.dance(along), 1);
    }

    /** Dances a call behind a beat, or what stands for one, from home: its clash. */
    private void clashOf(int want, String text, String before) {
        FigureCaller x = danced("before=" + before);
        int call = Checks.define(x, text);
        String floor = Checks.floor(x);
        String what = before + " | " + text;
        due(what, () -> x.dance(call), want == 0 ? x.beats(call) : "throws.IllegalStateException");
        due(what + ": clash()", () -> x.clash(), want);
        if (want != 0) {
            floor(what + ": nobody moves", x, floor);
        }
    }

    private void meeting() {
        sentence("Terms, promises 7, 8 and 9", "otherwise of 2, if two would be at one spot;");
        clashOf(12, "a=leads right", "all stay");
        clashOf(12, "a=all fwd", "all stay");
        clashOf(12, "a=heads left,sides right", "all stay");
        // One goes to another's spot, or both to a third, and nobody else moves.
        String[] eight = {"sides stay,follows stay,north ", "sides stay,leads stay,north ", "heads stay,follows stay,west ",
            "heads stay,leads stay,west ", "sides stay,follows stay,south ", "sides stay,leads stay,south ",
            "heads stay,follows stay,east ", "heads stay,leads stay,east "};
        for (int d = 0; d < 8; d++) {
            clashOf(12, "a=" + eight[d] + (d % 2 == 0 ? "right" : "left"), "all stay");
            clashOf(32, "a=3(" + eight[d] + "fwd)", "all stay");
            clashOf(0, "a=2(" + eight[d] + "fwd)", "all stay");
            clashOf(12, "a=" + eight[d] + "fwd", eight[d % 2 == 0 ? (d + 7) % 8 : (d + 1) % 8] + "fwd");
            clashOf(12, "a=" + eight[d] + (d % 2 == 0 ? "left" : "right"),
                eight[d % 2 == 0 ? (d + 7) % 8 : (d + 1) % 8] + (d % 2 == 0 ? "right" : "left"));
        }
        // Two who cross do not matter beside two at one spot, whoever of them comes first.
        clashOf(12, "a=follows left,heads right", "all stay");
        clashOf(12, "a=leads right,heads stay,follows left", "all stay");
        // Where one leaves and another comes there is one.
        clashOf(0, "a=north right", "all stay");
        clashOf(0, "a=all right", ALL_NORTH.substring(2));
    }

    private void crossing() {
        sentence("Terms, promises 7, 8 and 9", "otherwise of 3, if two would have each other's spots, unless, before the beat, "
            + "each of them has the other's spot before them, or each behind them.");
        String[] toTheEast = {"right", "fwd", "left", "back"};
        String[] toTheWest = {"left", "back", "right", "fwd"};
        for (int lead = 0; lead < 4; lead++) {
            for (int follow = 0; follow < 4; follow++) {
                crosses("heads", lead, toTheEast[lead], follow, toTheWest[follow],
                    lead == 1 && follow == 3 || lead == 3 && follow == 1);
                // 2 faces west at home with 3 to the right, as 0 faces north with 1 to the right.
                crosses("sides", lead, toTheEast[lead], follow, toTheWest[follow],
                    lead == 1 && follow == 3 || lead == 3 && follow == 1);
            }
        }
        // Two cross, and nobody else moves.
        clashOf(13, "a=sides stay,south stay,leads right,follows left", "all stay");
        clashOf(13, "a=sides stay,north stay,leads right,follows left", "all stay");
        clashOf(13, "a=heads stay,east stay,leads right,follows left", "all stay");
        clashOf(13, "a=heads stay,west stay,leads right,follows left", "all stay");
        // That two may cross does not let two others.
        clashOf(13, "a=heads fwd,leads right,follows left", "sides stay,leads tr,follows tl");
        clashOf(13, "a=sides fwd,leads right,follows left", "heads stay,leads tr,follows tl");
        clashOf(0, "a=all fwd", "leads tr,follows tl");
        clashOf(0, "a=all back", "leads tl,follows tr");
        // Of four who go round, nobody gets the spot of one who gets theirs.
        clashOf(0, "a=sides stay,leads right,follows fwd", "heads fwd");
    }

    private void crosses(String pair, int leadTurns, String leadGoes, int followTurns, String followGoes, boolean may) {
        String others = pair.equals("heads") ? "sides" : "heads";
        FigureCaller x = Checks.with("l=" + others + " stay,leads tr", "f=" + others + " stay,follows tr",
            "a=" + others + " stay,leads " + leadGoes + ",follows " + followGoes);
        for (int i = 0; i < leadTurns; i++) {
            x.dance(0);
        }
        for (int i = 0; i < followTurns; i++) {
            x.dance(1);
        }
        String what = pair + " turned " + leadTurns + " and " + followTurns;
        due(what, () -> x.dance(2), may ? 1 : "throws.IllegalStateException");
        due(what + ": clash()", () -> x.clash(), may ? 0 : 13);
    }

    private void selected(FigureCaller x, String what, String... wants) {
        for (int i = 0; i < wants.length; i++) {
            int selector = i;
            due(what + ": selector " + i, () -> Checks.selected(x, selector), wants[i]);
        }
    }

    private void selectorsOfFixedDancers() {
        sentence("Terms, promises 7 and 14", "SELECTORS, by words and numbers: all (0); leads (1): 0, 2, 4, 6; "
            + "follows (2): the others; heads (3): 0, 1, 4, 5; sides (4): the others;");
        selected(new FigureCaller(), "at home", "01234567", "0246", "1357", "0145", "2367");
        selected(danced("a=all back;leads tl,follows tr"), "elsewhere", "01234567", "0246", "1357", "0145", "2367");
        for (int i = 0; i < SELECTORS.length; i++) {
            wordAndNumber(i, "a=all stay");
            wordAndNumber(i, "a=all back;leads tl,heads tr");
        }

        sentence("Terms, promises 7 and 14", "north, east, south, west (5 .. 8): who faces so;");
        String[] facings = {"01", "67", "45", "23"};
        FigureCaller x = Checks.with("t=all tr");
        for (int turns = 0; turns < 5; turns++) {
            for (int f = 0; f < 4; f++) {
                int selector = 5 + f;
                due(turns + " turns: selector " + selector, () -> Checks.selected(x, selector), facings[(f + 4 - turns % 4) % 4]);
            }
            x.dance(0);
        }
        selected(danced("a=east tr,north tl"), "nobody faces north or east", "01234567", "0246", "1357", "0145", "2367",
            "", "", "4567", "0123");
    }

    /** The word in a call has whom the number has in select(). */
    private void wordAndNumber(int selector, String before) {
        FigureCaller x = danced(before);
        String numbered = Checks.selected(x, selector);
        int[] facings = new int[8];
        for (int d = 0; d < 8; d++) {
            facings[d] = x.where(d, 2);
        }
        x.dance(Checks.define(x, "w=" + SELECTORS[selector] + " tl"));
        StringBuilder turned = new StringBuilder();
        for (int d = 0; d < 8; d++) {
            turned.append(x.where(d, 2) != facings[d] ? String.valueOf(d) : "");
        }
        due("the word " + SELECTORS[selector] + " behind " + before, () -> turned, numbered);
    }

    private void centresAndEnds() {
        String[][] floors = {
            // All are equally far, so the four with the least 10 y + x.
            {"a=all stay", "0127", "3456"},
            {"a=all tr", "0127", "3456"},
            // The nearest four are told without a look at 10 y + x.
            {"a=sides fwd", "2367", "0145"},
            {"a=heads fwd", "0145", "2367"},
            {"a=3(sides back)", "0145", "2367"},
            // By number: 340 340 148 180 212 212 180 148.
            {"a=north back", "2367", "0145"},
            // 153 41 185 185 153 25 137 137: 6 at (3, 5) is nearer than 0 at (4, 3), whose 10 y + x is less.
            {"a=sides stay,follows fwd,south right", "1567", "0234"},
            // 377 137 153 169 185 185 169 153: of 3 at (6, 5) and 6 at (3, 5), both 169, it is 6.
            {"a=sides stay,follows stay,north back", "1267", "0345"},
            // 137 377 153 169 185 185 169 153.
            {"a=sides stay,leads stay,north back", "0267", "1345"},
            // 185 185 169 153 137 377 153 169: of 2 at (6, 4) and 7 at (3, 4) it is 7.
            {"a=sides stay,leads stay,south back", "3467", "0125"},
            // 153 169 185 185 169 153 137 377: of 1 at (5, 3) and 4 at (5, 6) it is 1.
            {"a=heads stay,leads stay,east back", "0156", "2347"}};
        sentence("Terms, promises 7 and 14", "centres (9): with X and Y the sums of x and of y over all dancers, the four with "
            + "the least (8 x - X)^2 + (8 y - Y)^2, of the same those with the least 10 y + x;");
        for (String[] f : floors) {
            due("behind " + f[0], () -> Checks.selected(danced(f[0]), 9), f[1]);
        }
        sentence("Terms, promises 7 and 14", "ends (10): the other four;");
        for (String[] f : floors) {
            due("behind " + f[0], () -> Checks.selected(danced(f[0]), 10), f[2]);
        }
    }

    private void frontAndRear() {
        sentence("Terms, promises 7 and 14", "front (11): those before whom nobody stands, near or far;");
        due("at home, all face somebody", () -> Checks.selected(new FigureCaller(), 11), "");
        due("far over the whole floor", () -> Checks.selected(danced("a=3(all back)"), 11), "");
        due("near", () -> Checks.selected(danced("a=heads fwd"), 11), "");
        due("who turns away at the edge", () -> Checks.selected(danced("a=3(all back);2(all tl)"), 11), "01234567");
        due("somebody behind does not count", () -> Checks.selected(danced("a=2(all tl)"), 11), "01234567");
        due("nor one beside the line", () -> Checks.selected(danced("a=north left"), 11), "4");
        due("who stands next", () -> Checks.selected(danced("a=all tr"), 11), "1357");
        sentence("Terms, promises 7 and 14", "rear (12): those behind whom nobody does.");
        due("at home, all have nobody behind them", () -> Checks.selected(new FigureCaller(), 12), "01234567");
        due("far over the whole floor", () -> Checks.selected(danced("a=3(all back);2(all tl)"), 12), "");
        due("near", () -> Checks.selected(danced("a=heads fwd;2(heads tl)"), 12), "2367");
        due("somebody before does not count", () -> Checks.selected(danced("a=3(all back)"), 12), "01234567");
        due("nor one beside the line", () -> Checks.selected(danced("a=north left;2(all tl)"), 12), "4");
        due("who stands next", () -> Checks.selected(danced("a=all tr"), 12), "0246");
    }

    private void text() {
        sentence("Terms, promises 2 and 3", "THE TEXT is a row of at most 100 characters with codes 32 .. 126.");
        for (int code = 1; code < 256; code++) {
            FigureCaller x = new FigureCaller();
            long bytes = code;
            due("write(" + code + ")", () -> x.write(bytes), code >= 32 && code <= 126);
            due("wipe() behind write(" + code + ")", () -> x.wipe(), code >= 32 && code <= 126 ? 1 : 0);
        }
        FigureCaller y = new FigureCaller();
        for (int i = 0; i < 100; i++) {
            y.write(126);
        }
        due("a character more than 100", () -> y.write(126), false);
        due("wipe() of 100", () -> y.wipe(), 100);
    }

    private void tokens() {
        sentence("Terms, promises 4 and 5", "TOKENS, from the left, blanks between passed over:");
        callOf("  a  =  2  (  all   tl  ,  leads  fwd  )  ;  all tr  ", 3);
        callOf("a=2(all tl,leads fwd);all tr", 3);
        callOf("a=all tl" + " ".repeat(92), 1);
        callOf(" ".repeat(92) + "a=all tl", 1);
        faultOf(" ".repeat(91) + "a=all #", 97);

        sentence("Terms, promises 4 and 5", "words (letters a .. z, all that follow one another),");
        callOf("az=all tl", 1);
        callOf("zyxwvuts=all tl", 1);
        callOf("abcdefgh=all tl", 1);
        callOf("qrijklmn=all tl", 1);
        callOf("op=all tl", 1);
        faultOf("a b=all tl", 2);
        faultOf("a=alltl", 2);
        faultOf("a=al l tl", 2);
        faultOf("a=all tlall tl", 6);
        faultOf("a=oldold", 2);
        faultOf("a=ol d", 2);
        callOf(" ".repeat(95) + "a=old", 1);
        faultOf(" ".repeat(94) + "a=olds", 96);

        sentence("Terms, promises 4 and 5", "numbers (digits, likewise),");
        callOf("a=2(old)", 2);
        faultOf("a=22(old)", 2);
        faultOf("a=2 2(old)", 4);
        faultOf("a=20(old)", 2);
        faultOf("a=29(old)", 2);
        faultOf(" ".repeat(97) + "a=2", 100);
        faultOf(" ".repeat(96) + "a=22", 98);
        faultOf("a2=all tl", 1);
        faultOf("a=2old", 3);

        sentence("Terms, promises 4 and 5", "the signs = ; , ( ) .");
        callOf("a=2(all tl,all tr;old)", 4);
        faultOf("a==all tl", 2);
        faultOf("a=;old", 2);
        faultOf("a=,old", 2);
        faultOf("a=(old)", 2);
        faultOf("a=)old", 2);
        faultOf("a=old.", 5);

        sentence("Terms, promises 4 and 5", "Any other character is none.");
        for (char c = 33; c < 127; c++) {
            if ("abcdefghijklmnopqrstuvwxyz0123456789=;,()".indexOf(c) < 0) {
                faultOf(c + "a=old", 0);
                faultOf("a" + c + "=old", 1);
                faultOf("a=all tl" + c, 8);
                faultOf("a=2(old) " + c, 9);
            }
        }
    }

    private void grammar() {
        sentence("Terms, promises 4 and 5", "call: NAME = steps.");
        callOf("a=old", 1);
        faultOf("", 0);
        faultOf("=old", 0);
        faultOf("a old", 2);
        faultOf("a;old", 1);
        faultOf("a=", 2);
        faultOf("a=old=old", 5);

        sentence("Terms, promises 4 and 5", "steps: step, and any number of times ; step.");
        callOf("a=old;old", 2);
        callOf("a=old" + ";old".repeat(15), 16);
        faultOf("a=old;", 6);
        faultOf("a=old;;old", 6);
        faultOf("a=;", 2);
        faultOf("a=old old", 6);
        faultOf("a=2(old;)", 8);

        sentence("Terms, promises 4 and 5", "step: beat, or OLD, or TIMES ( steps ).");
        callOf("a=all tl;old;2(old;all tl)", 6);
        faultOf("a=2()", 4);
        faultOf("a=2", 3);
        faultOf("a=2;old", 3);
        faultOf("a=2(old", 7);
        faultOf("a=2(old,old)", 7);
        faultOf("a=2(old)old", 8);
        faultOf("a=2(old),all tl", 8);
        faultOf("a=2(old))", 8);
        faultOf("a=old)", 5);
        faultOf("a=old(old)", 5);
        faultOf("a=old,all tl", 5);

        sentence("Terms, promises 4 and 5", "beat: part, and any number of times , part.");
        callOf("a=all tl,all tr", 1);
        callOf("a=all tl" + ",all tl".repeat(13), 1);
        faultOf("a=all tl,", 9);
        faultOf("a=all tl,,all tl", 9);
        faultOf("a=all tl,old", 9);
        faultOf("a=all tl,2(old)", 9);
        faultOf("a=all tl all tl", 9);

        sentence("Terms, promises 4 and 5", "part: SELECTOR ATOM.");
        for (String selector : SELECTORS) {
            for (String atom : ATOMS) {
                callOf("a=" + selector + " " + atom, 1);
            }
            faultOf("a=" + selector, 2 + selector.length());
            faultOf("a=" + selector + " " + selector + " tl", 3 + selector.length());
        }
        for (String atom : ATOMS) {
            faultOf("a=" + atom, 2);
        }
        faultOf("a=all old", 6);
        faultOf("a=all 2", 6);
        faultOf("a=all,all tl", 5);
        faultOf("a=all;old", 5);
    }

    private void names() {
        sentence("Terms, promises 4 and 5", "NAME is a word of at most 8 letters that is no selector's or atom's and no call's yet;");
        callOf("abcdefgh=all tl", 1);
        faultOf("abcdefghi=all tl", 0);
        faultOf("abcdefghi", 0);
        faultOf("a".repeat(100), 0);
        faultOf("2=all tl", 0);
        for (String word : SELECTORS) {
            faultOf(word + "=all tl", 0);
            callOf(word.substring(1) + "=all tl", 1);
        }
        for (String word : ATOMS) {
            faultOf("  " + word + "=all tl", 2);
            callOf(word + "x=all tl", 1);
        }
        faultOf(" old=all tl", 1);
        callOf("ol=all tl", 1);
        callOf("olds=all tl", 1);
        FigureCaller x = Checks.with("abcdefgh=all tl");
        due("seven of eight letters", () -> Checks.define(x, "abcdefg=all tl"), 1);
        due("other eight letters", () -> Checks.define(x, "abcdefgg=all tl"), 2);
        illegalArgument("the same eight letters", () -> Checks.define(x, "abcdefgh=all tl"));

        sentence("Terms, promises 4 and 5", "OLD the name of a call;");
        callOf("a=old", 1);
        faultOf("a=a", 2);
        faultOf("a=older", 2);
        faultOf("a=new", 2);
        faultOf("a=old;abcdefghij", 6);
        FigureCaller y = Checks.with("abcdefgh=all tl", "b=all tr", "c=b;abcdefgh;b");
        due("the first, the second and the first call", () -> y.beats(2), 3);
        illegalArgument("eight letters and one", () -> Checks.define(y, "d=abcdefghi"));
        illegalArgument("seven of eight letters", () -> Checks.define(y, "d=abcdefg"));
        for (int i = 3; i < 12; i++) {
            Checks.define(y, (char) ('a' + i) + "=b");
        }
        illegalState("of all twelve", () -> Checks.define(y, "z=l"));
    }

    private void brackets() {
        sentence("Terms, promises 4 and 5", "TIMES a number of one digit, 2 .. 4.");
        callOf("a=2(old)", 2);
        callOf("a=3(old)", 3);
        callOf("a=4(old)", 4);
        for (String number : new String[] {"0", "1", "5", "6", "7", "8", "9", "02", "22", "10", "2000000000", "4294967298"}) {
            faultOf("a=" + number + "(old)", 2);
            faultOf("a=old;" + number + "(old)", 6);
            faultOf("a=2(" + number + "(old))", 4);
        }

        sentence("Terms, promises 4 and 5", "There are at most 3 brackets ( within one another.");
        callOf("a=2(2(2(old)))", 8);
        callOf("a=2(2(old);2(old));2(2(old))", 12);
        callOf("a=2(2(2(old)));2(2(2(old)))", 16);
        callOf("a=2(old);2(old);2(old);2(old);2(old)", 10);
        faultOf("a=2(2(2(2(old))))", 8);
        faultOf("a=2(2(2(old;3(old))))", 12);
        callOf("a=2(2(2(old));2(2(old)))", 16);
        faultOf("a=2(2(2(2", 8);
        faultOf("a=2(2(2((old))))", 8);
        FigureCaller x = Checks.with("old=2(2(2(all tl)))");
        due("an older call's brackets are not within", () -> Checks.define(x, "a=2(old)"), 1);
    }

    private void fault() {
        sentence("Terms, promises 4 and 5", "READING ends at the first token with which no call begins as the tokens up to it do "
            + "(or a character that is none);");
        faultOf("a=all tl;tl;tl", 9);
        faultOf("a=all tl;  tl;tl", 11);
        faultOf("a=old;#", 6);
        faultOf("a=nobody#", 2);
        faultOf("a#=nobody", 1);
        faultOf("# # #", 0);
        // Each reading begins anew, whatever the one before came to.
        FigureCaller anew = Checks.with("old=all tl");
        illegalArgument("within two brackets", () -> Checks.define(anew, "a=3(2(old,"));
        illegalArgument("a bracket too many", () -> Checks.define(anew, "a=old)"));
        due("a bracket too many: fault()", () -> anew.fault(), 5);
        illegalArgument("16 beats and no end", () -> Checks.define(anew, "a=4(4(old));"));
        due("a call", () -> Checks.define(anew, "a=2(old)"), 1);
        due("a call: beats()", () -> anew.beats(1), 2);
        // Too many beats, or too deep, is found out only at the end.
        faultOf("a=4(4(4(old)));tl", 15);

        sentence("Terms, promises 4 and 5", "THE FAULT is where that is, or the length of the text, if it just ends too early,");
        faultOf("", 0);
        faultOf("   ", 3);
        faultOf(" ".repeat(100), 100);
        faultOf("a", 1);
        faultOf("a  ", 3);
        faultOf("a=", 2);
        faultOf("a=all", 5);
        faultOf("a=all  ", 7);
        faultOf("a=all tl,", 9);
        faultOf("a=all tl;", 9);
        faultOf("a=old; ", 7);
        faultOf("a=2", 3);
        faultOf("a=2(", 4);
        faultOf("a=2(all tl ", 11);
        faultOf("a=2(2(old)", 10);
        faultOf("a=old;" + " ".repeat(94), 100);

        sentence("Terms, promises 4 and 5", "or if it is a call but has more than 16 BEATS or is more than 6 DEEP.");
        callOf("a=4(4(old))", 16);
        callOf("a=3(old;4(old));old", 16);
        faultOf("a=4(4(old));old", 15);
        faultOf("a=old;4(4(old))  ", 17);
        faultOf("a=4(4(old;all tr))", 18);
        faultOf("a=4(4(4(old)))", 14);
        faultOf("a=3(3(2(all tl)))", 17);
        faultOf("a=old" + ";old".repeat(16), 69);
        FigureCaller x = Checks.with("a=all tl", "b=a", "c=b", "d=c", "e=d");
        due("6 deep", () -> Checks.define(x, "f=e"), 5);
        illegalArgument("7 deep", () -> Checks.define(x, "g=f "));
        due("7 deep: fault()", () -> x.fault(), 4);
        due("7 deep: the text stays", () -> x.wipe(), 4);
        illegalArgument("7 deep, and 17 beats", () -> Checks.define(x, "g=4(4(f));f"));
        due("7 deep, and 17 beats: fault()", () -> x.fault(), 11);
        illegalArgument("7 deep, then a wrong token", () -> Checks.define(x, "g=f;2(f;)"));
        due("7 deep, then a wrong token: fault()", () -> x.fault(), 8);
    }

    private void beatsAndDepth() {
        sentence("Terms, promises 5 and 6", "Beats: those of its steps together, of TIMES ( steps ) so many times those in it, "
            + "of OLD those of the call.");
        FigureCaller x = Checks.with("a=all tl,leads fwd", "b=a;all tl;a", "c=3(b;2(a));a", "d=4(4(all stay))", "e=d");
        int[] beats = {1, 3, 16, 16, 16};
        for (int i = 0; i < beats.length; i++) {
            int call = i;
            due("beats(" + i + ")", () -> x.beats(call), beats[i]);
        }
        illegalArgument("16 and 1", () -> Checks.define(x, "z=d;a"));
        illegalArgument("1 and 16", () -> Checks.define(x, "z=a;d"));
        illegalArgument("twice 16", () -> Checks.define(x, "z=2(d)"));
        illegalArgument("thousands", () -> Checks.define(x, "z=4(4(4(" + "d;".repeat(44) + "d)))"));
        due("thousands: fault()", () -> x.fault(), 100);

        sentence("Terms, promises 4 and 5", "Deep: 1, or with OLD in it 1 more than the deepest of these.");
        FigureCaller y = Checks.with("a=all tl", "b=a", "c=b;a", "d=a;c", "e=d", "f=a;2(e)");
        due("6 deep", () -> y.beats(5), 7);
        illegalArgument("7 deep, the deepest first", () -> Checks.define(y, "g=f;a"));
        illegalArgument("7 deep, the deepest last", () -> Checks.define(y, "g=a;f"));
        illegalArgument("7 deep, in brackets", () -> Checks.define(y, "g=2(f;all tl)"));
        due("7 deep: fault()", () -> y.fault(), 13);
        due("many, but 6 deep", () -> Checks.define(y, "g=e;e;e;a"), 6);
        due("brackets make nothing deep", () -> Checks.define(y, "h=2(2(2(all tl)))"), 7);
        due("2 deep", () -> Checks.define(y, "i=h"), 8);
    }

    private void dancing() {
        sentence("Terms, promise 7", "DANCING a call means its steps one after the other.");
        behind("430 530 643 653 562 462 351 341", "a=all back;all fwd");
        behind("321 421 730 740 673 573 262 252", "a=all back;all tr;all back");
        FigureCaller old = Checks.with("a=all back", "b=all tr", "c=a;b;a");
        old.dance(2);
        floor("of older calls", old, "321 421 730 740 673 573 262 252");
        FigureCaller x = danced("a=2(all back;all tr)");
        due("its beats in order", () -> x.stood(1, 0) + " " + x.stood(2, 0) + " " + x.stood(3, 0) + " " + x.stood(4, 0),
            "24 24 23 23");

        sentence("Terms, promise 7", "In a beat each dancer does the atom of the first part whose selector has them, or stays.");
        behind("420 520 642 650 572 472 350 342", "a=heads back,leads tl,all tr");
        behind("433 531 642 650 561 463 350 342", "a=leads tl,all tr,heads back");
        behind("420 520 643 653 562 462 351 341", "a=north back");
        behind(HOME, "a=all stay,all fwd");
        behind(HOME, "a=front fwd");
        behind("430 530 643 653 562 462 351 341", "a=north stay,east stay,south stay,west stay,all fwd");

        sentence("Terms, promises 7 and 8", "If a beat fails, nothing is danced.");
        FigureCaller y = danced("a=all back");
        String floor = Checks.floor(y);
        int bad = Checks.define(y, "b=all tl;all tr;3(all back)");
        illegalState("the fifth beat fails", () -> y.dance(bad));
        due("it is the fifth", () -> y.clash(), 51);
        floor("nobody has moved", y, floor);
        due("the journal's last is the call before", () -> y.undo(), 1);
    }

    private void selectorsAreTaken() {
        sentence("Terms, promise 7", "All selectors of a call, but not those of calls within it, are taken once, as the dancers "
            + "stand before its first beat;");
        behind("533 633 642 652 561 461 350 340", "a=all tl;north back");
        behind("431 531 643 653 562 462 351 341", "a=3(north tl)");
        behind("430 530 642 652 562 462 350 340", "a=all tl;north tr,south tr");
        behind("433 533 542 553 562 462 451 440", "a=sides fwd;centres tl");
        behind("432 532 641 651 560 460 353 343", "a=2(all tl);front fwd");
        FigureCaller own = Checks.with("t=all tr", "a=t;2(north tl);t");
        own.dance(1);
        floor("before an older call that it begins with", own, "430 530 641 651 560 460 353 343");

        sentence("Terms, promise 7", "those of a call within it as they stand before its own first beat, each time anew.");
        FigureCaller anew = Checks.with("n=north back", "a=all tl;n;all tr");
        anew.dance(1);
        floor("anew", anew, "430 530 643 653 562 462 341 331");
        FigureCaller each = Checks.with("n=north tl", "a=2(n;all tr)");
        each.dance(1);
        floor("each time", each, "430 530 640 650 560 460 353 343");
        FigureCaller later = Checks.with("n=north tl", "a=all tr;2(n;all tr)");
        later.dance(1);
        floor("each time, in a bracket behind a beat", later, "433 533 640 650 560 460 350 340");
        FigureCaller deeper = Checks.with("n=north back", "m=all tr;n", "a=all tr;m");
        deeper.dance(2);
        floor("in a call within a call within it", deeper, "432 532 641 651 550 450 353 343");
        FigureCaller inner = Checks.with("m=all tr;north back", "a=all tr;m");
        inner.dance(1);
        floor("before its own first beat, and then no more", inner, "432 532 541 551 560 460 353 343");
    }

    private void backward() {
        sentence("Terms, promise 8", "BACKWARD means all its beats, those of calls within it, too, from the last to the first,");
        FigureCaller x = Checks.with("out=all back;all tl", "o=all tr;out", "four=2(out)");
        x.backward(0);
        floor("the last beat first", x, "531 631 650 660 463 363 342 332");
        x.home();
        x.backward(1);
        floor("the last beat of a call within it first", x, "530 630 653 663 462 362 341 331");
        x.home();
        x.dance(2);
        x.backward(2);
        floor("there and back", x, HOME);
        due("16 beats", () -> x.backward(Checks.define(x, "s=4(4(all tl))")), 16);

        sentence("Terms, promise 8", "with fwd and back, left and right, tl and tr exchanged;");
        String[] exchanged = {"stay", "back", "fwd", "right", "left", "tr", "tl"};
        for (int i = 0; i < ATOMS.length; i++) {
            for (String facing : new String[] {"north", "east", "south", "west"}) {
                FigureCaller y = Checks.with("a=" + facing + " " + ATOMS[i]);
                y.backward(0);
                floor(facing + " " + ATOMS[i], y, Checks.floor(danced("a=" + facing + " " + exchanged[i])));
            }
        }

        sentence("Terms, promise 8", "all selectors, also those of calls within it, are taken once, as the dancers stand before.");
        FigureCaller z = Checks.with("n=north back", "m=all stay;n;all tr", "l=2(n;all tr)");
        z.backward(1);
        floor("not before a call's own first beat", z, "333 433 642 652 561 461 350 340");
        z.home();
        z.backward(2);
        floor("nor each time anew", z, "322 422 641 651 560 460 353 343");
    }

    private void journal() {
        sentence("Terms, promises 7, 8, 10 and 11", "THE JOURNAL has the calls danced, forward or backward, since home, at most 24.");
        FigureCaller x = Checks.with("a=all tl", "far=4(all back)");
        for (int i = 0; i < 12; i++) {
            due("dance " + i, () -> x.dance(0), 1);
            due("backward " + i, () -> x.backward(0), 1);
        }
        illegalState("a 25th", () -> x.dance(0));
        illegalState("a 25th backward", () -> x.backward(0));
        due("home()", () -> x.home(), 24);
        illegalState("one that fails", () -> x.dance(1));
        due("home() behind one that fails", () -> x.home(), 0);
        x.dance(0);
        x.dance(0);
        x.undo();
        due("home() behind one taken back", () -> x.home(), 1);
    }

    /** Twelve calls, of which the first five are allowed, a full journal and no text. */
    private static FigureCaller full() {
        FigureCaller x = new FigureCaller();
        for (int i = 0; i < 12; i++) {
            Checks.define(x, (char) ('a' + i) + "=all tl");
        }
        for (int i = 0; i < 5; i++) {
            x.allow(i, true);
        }
        for (int i = 0; i < 24; i++) {
            x.dance(0);
        }
        return x;
    }

    private void exceptions() {
        sentence("Terms, promises 6 to 8, 12 to 14, 16 and 19", "In all calls illegal argument: there is no such call, dancer or selector.");
        FigureCaller x = Checks.with("a=all tl", "b=all tr");
        x.dance(0);
        for (int wrong : new int[] {-1, 2, 12, 13, Integer.MIN_VALUE, Integer.MAX_VALUE, -2147483647, 256, 65536}) {
            illegalArgument("beats(" + wrong + ")", () -> x.beats(wrong));
            illegalArgument("dance(" + wrong + ")", () -> x.dance(wrong));
            illegalArgument("backward(" + wrong + ")", () -> x.backward(wrong));
            illegalArgument("same(" + wrong + ", 0)", () -> x.same(wrong, 0));
            illegalArgument("same(0, " + wrong + ")", () -> x.same(0, wrong));
            illegalArgument("same(" + wrong + ", " + wrong + ")", () -> x.same(wrong, wrong));
            illegalArgument("allow(" + wrong + ", true)", () -> allow(x, wrong, true));
            illegalArgument("allow(" + wrong + ", false)", () -> allow(x, wrong, false));
        }
        for (int wrong : new int[] {-1, 8, 9, Integer.MIN_VALUE, Integer.MAX_VALUE}) {
            illegalArgument("where(" + wrong + ", 0)", () -> x.where(wrong, 0));
            illegalArgument("stood(0, " + wrong + ")", () -> x.stood(0, wrong));
            illegalArgument("select(0, " + wrong + ")", () -> x.select(0, wrong));
        }
        for (int wrong : new int[] {-1, 13, 14, Integer.MIN_VALUE, Integer.MAX_VALUE}) {
            illegalArgument("select(" + wrong + ", 0)", () -> x.select(wrong, 0));
        }

        sentence("Terms, promises 4, 7, 8, 13 and 16", "Of several exceptions the one named first is thrown;");
        FigureCaller y = full();
        illegalArgument("define() of none, with 12 calls", () -> Checks.define(y, "m=m"));
        illegalState("define() of one, with 12 calls", () -> Checks.define(y, "m=a"));
        illegalArgument("dance() of none, the journal full", () -> y.dance(12));
        illegalArgument("backward() of none, the journal full", () -> y.backward(12));
        illegalArgument("allow() of none, with five others", () -> allow(y, 12, true));
        illegalState("allow() of one, with five others", () -> allow(y, 5, true));
        illegalArgument("stood() of no dancer and no beat", () -> y.stood(2, 8));
        outOfBounds("stood() of no beat", () -> y.stood(2, 7));
        y.home();
        illegalArgument("stood() of no dancer and no call", () -> y.stood(0, 8));

        sentence("Terms, promises 4 to 19", "a call that throws changes nothing but fault() and clash().");
        changesNothing("define() of a thirteenth", TermsTest::full, z -> Checks.define(z, ""));
        changesNothing("dance(12)", TermsTest::full, z -> z.dance(12));
        changesNothing("dance() behind a full journal", TermsTest::full, z -> z.dance(0));
        changesNothing("backward() behind a full journal", TermsTest::full, z -> z.backward(0));
        changesNothing("allow() of a sixth", TermsTest::full, z -> z.allow(11, true));
        changesNothing("define() of none", TermsTest::busy, z -> z.define());
        changesNothing("beats(7)", TermsTest::busy, z -> z.beats(7));
        changesNothing("dance() that fails", TermsTest::busy, z -> z.dance(3));
        changesNothing("dance(7)", TermsTest::busy, z -> z.dance(7));
        changesNothing("backward() that fails", TermsTest::busy, z -> z.backward(3));
        changesNothing("backward(-1)", TermsTest::busy, z -> z.backward(-1));
        changesNothing("undo()", TermsTest::empty, z -> z.undo());
        changesNothing("where(8, 0)", TermsTest::busy, z -> z.where(8, 0));
        changesNothing("where(0, 3)", TermsTest::busy, z -> z.where(0, 3));
        changesNothing("stood(0, 8)", TermsTest::busy, z -> z.stood(0, 8));
        changesNothing("stood(17, 0)", TermsTest::busy, z -> z.stood(17, 0));
        changesNothing("stood(0, 0) of no call", TermsTest::empty, z -> z.stood(0, 0));
        changesNothing("select(13, 0)", TermsTest::busy, z -> z.select(13, 0));
        changesNothing("allow(7)", TermsTest::busy, z -> z.allow(7, true));
        changesNothing("way(4)", TermsTest::busy, z -> z.way(4));
        changesNothing("way(-1)", TermsTest::busy, z -> z.way(-1));
        changesNothing("same(0, 7)", TermsTest::busy, z -> z.same(0, 7));
    }

    private static String allow(FigureCaller x, int call, boolean yes) {
        x.allow(call, yes);
        return "done";
    }

    private static FigureCaller busy() {
        FigureCaller x = Checks.with("a=all tl", "b=all tr", "c=all back", "d=4(2(all fwd))",
            "e=all stay", "f=a;a", "g=b;b");
        x.allow(0, true);
        x.allow(1, true);
        x.allow(4, true);
        x.dance(4);
        x.backward(0);
        x.resolve();
        Checks.write(x, "bad=all tl;4(4(4(all fwd)))");
        return x;
    }

    private static FigureCaller empty() {
        FigureCaller x = busy();
        x.home();
        return x;
    }
}
