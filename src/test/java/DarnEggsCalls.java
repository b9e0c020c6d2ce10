import java.io.IOException;

/** The calls, promise by promise, each by the document's own words. */
public final class DarnEggsCalls extends Sentences {
    private static final String BLANKS = times(20, " ");

    public static void main(String[] args) throws IOException {
        read("## Promise 1:", "## Not promised");
        newObject();
        feeding();
        villages();
        laws();
        works();
        books();
        faultsAndUndo();
        told();
        eggsAndHands();
        holesAndPaths();
        mends();
        ahead();
        bestAndGiven();
        walks();
        fitsAndLook();
        firstAndRidge();
        wool();
        worstAndGoes();
        partsAndRidges();
        generations();
        images();
        statusAndCount();
        noWordLeftOut();
        end();
    }

    private static void newObject() {
        says("A VILLAGE without CLAUSES.", () -> {
            DarnEggs x = new DarnEggs();
            String fresh = all(x);
            due("wool", x.told(5), 12);
            for (int what : new int[] {0, 1, 2, 3, 4, 6, 7, 8, 9, 10, 11}) {
                due("told(" + what + ")", x.told(what), 0);
            }
            due("bytes", x.count(1), 0);
            due("no FAULT", x.fault(), -1);
            due("without LAW", x.would(4, 3, 0, 0, 0, 0, 0, 0), 4);
            due("village of nothing", x.village(0), 0);
            same("as a village of nothing", all(x), fresh);
            noElement("no EGG", () -> x.egg(0, 0));
            noElement("no HAND", () -> x.hand(0, 0));
            noElement("no HOLE", () -> x.hole(0, 0));
            noElement("no PATH", () -> x.path(0, 0));
        });
    }

    private static void feeding() {
        says("Twenty bytes come on the TAPE, of each number the highest first: how many there are;", () -> {
            DarnEggs x = new DarnEggs();
            due("20", x.feed(0x686f6c65, 0x20373b68, 0x6f6c6520, 0x393b2020, 0x20202020), 20);
            due("40", x.feed(0x686f6c65, 0x20363b20, 0x20202020, 0x20202020, 0x20202020), 40);
            due("three HOLES", x.village(40), 3);
            due("7", x.hole(0, 0), 7);
            due("9", x.hole(1, 0), 9);
            due("6", x.hole(2, 0), 6);
            due("20 again", x.feed(-1, Integer.MIN_VALUE, 0x80ff7f00, 0, Integer.MAX_VALUE), 20);
            due("a byte of 255", x.village(1), -9);
            x.feed(0x2020207f, 0, 0, 0, 0);
            due("the last of a number", x.village(4), -9);
            due("its place", x.fault(), 3);
            x.feed(0x20202020, 0x20202020, 0x20202020, 0x20202020, 0x202020a0);
            due("the 20th, whose high bit is set", x.village(20), -9);
            due("its place", x.fault(), 19);
        });
        says("NONE, doing nothing, if there would be more than 600.", () -> {
            DarnEggs x = new DarnEggs();
            for (int i = 1; i <= 29; i++) {
                feed(x, BLANKS);
            }
            due("600", x.feed(0x20202020, 0x20202020, 0x20202020, 0x20202020, 0x686f6c65), 600);
            due("no more", x.feed(0x20373b20, 0, 0, 0, 0), -1);
            due("no more", x.feed(0, 0, 0, 0, 0), -1);
            due("bytes", x.count(1), 600);
            due("the text ends with its word", x.village(600), -9);
            due("the length", x.fault(), 600);
            due("empty then", x.feed(0, 0, 0, 0, 0), 20);
        });
    }

    private static void villages() {
        says("The first n bytes of the TAPE (empty then) are the VILLAGE (no LAW, BOOK, IMAGES, nothing to undo): "
                + "how many HOLES;", () -> {
            DarnEggs x = at(SMALL, "7", "darn 0 0 0;call 0;");
            book(x, "0 1;");
            x.image();
            feed(x, "hole 1;hole 2;hole 3;");
            due("the first 14", x.village(14), 2);
            due("empty then", x.count(1), 0);
            due("no LAW", x.would(0, 0, 0, 0, 0, 0, 0, 0), 3);
            due("no BOOK", x.told(10), 0);
            due("no IMAGES", x.count(0), 0);
            due("no IMAGES", x.restore(), -1);
            due("nothing to undo", x.count(2), 0);
            due("nothing to undo", x.undo(), -1);
            due("0 bytes", x.village(0), 0);
            due("none REFUSED", x.told(11), 0);
            feed(x, BLANKS);
            due("0 of 20 bytes", x.village(0), 0);
            due("empty then", x.count(1), 0);
            due("nine", village(x, times(9, "hole 1;")), 9);
            nothingOfEarlierOnes();
        });
        says("or the FAULT less 10 (all stays).", () -> {
            DarnEggs x = at(SMALL, "7", "darn 0 0 0;call 0;");
            book(x, "0 1;");
            x.image();
            String before = all(x);
            due("1", village(x, "hole 1;hole"), -9);
            due("2", village(x, "egg 1;hole 61;"), -8);
            due("3", village(x, times(7, "egg 1;")), -7);
            same("all", all(x), before);
            due("empty, too", x.count(1), 0);
            due("undo", x.undo(), 0);
            due("restore", x.restore(), 0);
            same("state", state(x), before.substring(0, state(x).length()));
        });
        says("IllegalArgumentException: n is not 0 to the TAPE's bytes (it stays).", () -> {
            DarnEggs x = new DarnEggs();
            badArgument("1 of 0", () -> x.village(1));
            feed(x, "hole 1;");
            badArgument("-1", () -> x.village(-1));
            badArgument("21 of 20", () -> x.village(21));
            badArgument("the greatest", () -> x.village(Integer.MAX_VALUE));
            badArgument("the least", () -> x.village(Integer.MIN_VALUE));
            due("it stays", x.count(1), 20);
            due("it stays", x.village(7), 1);
            due("five refused", x.status(1), 5);
            feed(x, "hole 1;" + times(13, " "));
            due("20 of 20", x.village(20), 1);
        });
    }

    /** Whatever VILLAGES an object had, faulty ones among them: the latest is as on a new object. */
    private static void nothingOfEarlierOnes() {
        String[] texts = {SMALL, times(6, "egg 9;hand 9;hole 9;") + "path 0 5;path 1 2;moths 1;",
            "", "hole 3;hole 3;path 1 0;moths 9;wool 0;", "egg 1;hand 0;hole 5;", "hole 3;", "wool 7;"};
        DarnEggs x = new DarnEggs();
        for (int i = 0; i < 40; i++) {
            String t = texts[i * i % 7];
            village(x, texts[i * 3 % 7] + "!");
            village(x, t);
            DarnEggs y = at(t);
            same("a VILLAGE behind others", all(x), all(y));
            due("days ahead", x.ahead(99, 0), y.ahead(99, 0));
            due("generation", x.generation(i, 9, 20, 0), y.generation(i, 9, 20, 0));
            due("guards", x.guards(), y.guards());
            law(x, "20");
            work(x, "darn 0 0 0;darn 1 0 1;let 0 0;");
            book(x, "0 1;1 1;");
            x.image();
        }
    }

    private static void laws() {
        says("Likewise the LAW (n to 150): 1.", () -> {
            DarnEggs x = at(SMALL);
            due("1", law(x, "7"), 1);
            due("empty then", x.count(1), 0);
            due("the first n bytes", lawOf(x, "19", 1), 1);
            due("mend", x.mend(0, 0, 0), 1);
            String before = all(x);
            due("FAULT 1", law(x, ""), -9);
            due("FAULT 2", law(x, "1000"), -8);
            due("FAULT 3", law(x, "((((((("), -7);
            due("empty then", x.count(1), 0);
            same("all stays", all(x), before);
            feed(x, times(160, "1"));
            badArgument("151", () -> x.law(151));
            badArgument("-1", () -> x.law(-1));
            badArgument("161", () -> x.law(161));
            due("it stays", x.count(1), 160);
            due("150", x.law(150), -8);
            badArgument("1 of 0", () -> x.law(1));
            work(x, "darn 0 0 0;");
            law(x, "9");
            due("WORKS stay", x.count(2), 1);
            due("the DAY's darns stay", x.told(8), 1);
        });
    }

    private static int lawOf(DarnEggs x, String t, int n) {
        feed(x, t);
        return x.law(n);
    }

    private static void works() {
        says("Likewise WORK (n to 150), which is done: how many STEPS were done (agains not counted, nor REFUSED ones);",
                () -> {
            DarnEggs x = at(SMALL);
            due("done", work(x, "again 2[again 2[day;call 0;];];shear 1;"), 5);
            due("refused", x.told(11), 4);
            due("none", work(x, "call 0;"), 0);
            due("none", work(x, ""), 0);
            feed(x, "day;day;day;");
            due("the first n bytes", x.work(8), 2);
            due("empty then", x.count(1), 0);
            feed(x, times(160, " "));
            badArgument("151", () -> x.work(151));
            badArgument("-1", () -> x.work(-1));
            badArgument("161", () -> x.work(161));
            due("it stays", x.count(1), 160);
            due("150", x.work(150), 0);
            badArgument("1 of 0", () -> x.work(1));
            due("WORKS", x.count(2), 5);
        });
        says("or the FAULT less 10 (none is);", () -> {
            DarnEggs x = at(SMALL, "1", "call 0;");
            String before = all(x);
            due("1", work(x, "day;shear 1;days;"), -9);
            due("2", work(x, "day;shear 41;"), -8);
            due("3", work(x, "day;" + times(7, "again 1[")), -7);
            due("empty then", x.count(1), 0);
            same("all stays", all(x), before);
        });
        says("-20 ahead of that (nothing is read, there is no FAULT, the TAPE is empty then): "
                + "16 WORKS are there that were not undone.", () -> {
            DarnEggs x = at("hole 1;");
            for (int i = 0; i < 15; i++) {
                work(x, "day;");
            }
            due("a 16th", work(x, "shear 1;unpick 0;"), 1);
            law(x, "x");
            due("a FAULT", x.fault(), 0);
            String before = all(x);
            due("a 17th", work(x, "day;"), -20);
            due("there is no FAULT", x.fault(), -1);
            due("the TAPE is empty", x.count(1), 0);
            due("ahead of a FAULT", work(x, "dayz;"), -20);
            due("there is no FAULT", x.fault(), -1);
            due("one of 0 bytes", x.work(0), -20);
            same("nothing is done", all(x), before);
            due("undo", x.undo(), 15);
            due("a faulty one is none of them", work(x, "days;"), -9);
            due("a 16th again", work(x, "day;"), 1);
            due("no 17th", work(x, "day;"), -20);
            due("WORKS", x.count(2), 16);
            x.image();
            x.undo();
            x.undo();
            x.restore();
            due("as in an IMAGE", work(x, "day;"), -20);
            due("other texts are read", law(x, "1"), 1);
            village(x, "");
            due("a new VILLAGE", work(x, "day;"), 1);
        });
    }

    private static void books() {
        says("Likewise the BOOK (n to 60): how many lines.", () -> {
            DarnEggs x = at(SMALL);
            due("none", book(x, ""), 0);
            due("four", book(x, "0 1;1 1;2 1;3 1;"), 4);
            String before = all(x);
            due("FAULT 1", book(x, "0 1"), -9);
            due("FAULT 2", book(x, "0 1;0 1;"), -8);
            due("empty then", x.count(1), 0);
            same("all stays", all(x), before);
            feed(x, "0 1;1 1;2 1;3 1;");
            due("the first n bytes", x.book(8), 2);
            due("empty then", x.count(1), 0);
            feed(x, times(61, " "));
            badArgument("61", () -> x.book(61));
            badArgument("-1", () -> x.book(-1));
            badArgument("81", () -> x.book(81));
            due("it stays", x.count(1), 80);
            due("60", x.book(60), 0);
            badArgument("1 of 0", () -> x.book(1));
            due("without lines", x.told(10), 0);
            DarnEggs y = at(times(9, "hole 9;"));
            due("eight", book(y, "0 1;1 1;2 1;3 1;4 1;5 1;6 1;8 1;"), 8);
            due("FAULT 3", book(y, "0 1;1 1;2 1;3 1;4 1;5 1;6 1;8 1;7 1;"), -7);
            due("eight stay", y.told(10), 8);
        });
    }

    private static void faultsAndUndo() {
        says("The place of the FAULT of the latest text; NONE without.", () -> {
            DarnEggs x = new DarnEggs();
            due("without a text", x.fault(), -1);
            due("a FAULT", law(x, "1+x"), -9);
            due("its place", x.fault(), 2);
            due("another one's", village(x, "hole 61;"), -8);
            due("its place", x.fault(), 5);
            feed(x, BLANKS);
            badArgument("a refused call has no text", () -> x.village(21));
            x.undo();
            x.image();
            x.restore();
            x.ahead(1, 0);
            due("it stays", x.fault(), 5);
            due("a good text", x.village(20), 0);
            due("NONE", x.fault(), -1);
            work(x, "x");
            book(x, "");
            due("a good one of another kind", x.fault(), -1);
        });
        says("The latest WORK that was done is undone: how many are left; -1: there is none.", () -> {
            DarnEggs x = at(SMALL, "20", "darn 1 0 0;call 0;");
            String first = state(x);
            work(x, "day;darn 1 0 1;let 0 3;unpick 0;shear 3;day;call 1;");
            String second = state(x);
            work(x, "days;");
            work(x, "");
            due("an empty one is a WORK", x.undo(), 2);
            same("the second", state(x), second);
            law(x, "4");
            book(x, "0 1;");
            due("the second is undone", x.undo(), 1);
            same("the first", state(x), first);
            due("none REFUSED, then", x.told(11), 0);
            due("the first is undone", x.undo(), 0);
            same("as told", state(x), state(at(SMALL)));
            due("the LAW stays", x.mend(0, 0, 0), 4);
            due("the BOOK stays", x.told(10), 1);
            due("none", x.undo(), -1);
            due("none", x.undo(), -1);
            same("as told", state(x), state(at(SMALL)));
            DarnEggs y = at("hole 1;");
            for (int i = 0; i < 16; i++) {
                work(y, "day;");
            }
            for (int left = 15; left >= 0; left--) {
                due("undo", y.undo(), left);
                due("DAY", y.told(4), left);
            }
            due("none", y.undo(), -1);
        });
    }

    private static void told() {
        says("0 EGGS, 1 HANDS, 2 HOLES, 3 PATHS, 4 the DAY, 5 wool, 6 EGGS that are HATCHED (bits), "
                + "7 EGGS of which something is OUT (bits), 8 HANDS that darned this DAY (bits), "
                + "9 WEAR of all HOLES together, 10 lines of the BOOK,", () -> {
            DarnEggs x = at(times(6, "egg 1;") + times(6, "hand 0;") + times(9, "hole 60;") + "path 0 1;moths 1;wool 99;",
                    "0", "darn 0 0 0;darn 1 1 0;darn 2 2 0;darn 3 3 0;darn 4 4 0;darn 5 5 0;");
            book(x, "8 0;2 0;");
            int[] want = {6, 6, 9, 1, 0, 93, 63, 0, 63, 540, 2};
            for (int what = 0; what < want.length; what++) {
                due("told(" + what + ")", x.told(what), want[what]);
            }
            work(x, "let 5 8;let 0 7;");
            due("OUT", x.told(7), 33);
            work(x, "call 0;call 5;again 30[day;day;];");
            due("most WEAR", x.told(9), 891);
            due("DAY", x.told(4), 60);
            due("none OUT", x.told(7), 0);
            due("none darned", x.told(8), 0);
        });
        says("11 STEPS REFUSED by the latest WORK (0 ahead of any, behind undo(), restore()).", () -> {
            DarnEggs x = at(SMALL);
            due("ahead of any", x.told(11), 0);
            x.image();
            work(x, "call 0;call 1;");
            due("two", x.told(11), 2);
            work(x, "call 0;day;");
            due("one", x.told(11), 1);
            x.undo();
            due("behind undo()", x.told(11), 0);
            work(x, "again 30[again 30[call 0;];];");
            due("most", x.told(11), 192);
            x.restore();
            due("behind restore()", x.told(11), 0);
            work(x, "unpick 0;day;");
            due("one", x.told(11), 1);
            work(x, "day;");
            due("none", x.told(11), 0);
        });
        says("IllegalArgumentException: another what (so below).", () -> {
            DarnEggs x = at("egg 1;hand 1;hole 1;hole 1;path 0 1;");
            badArgument("told(12)", () -> x.told(12));
            badArgument("told(-1)", () -> x.told(-1));
            badArgument("told, the least", () -> x.told(Integer.MIN_VALUE));
            badArgument("told, the greatest", () -> x.told(Integer.MAX_VALUE));
            int[] most = {5, 2, 4, 1, 2, 1, 1, 1, 2, 1, 1, 3, 2};
            for (int call = 0; call < most.length; call++) {
                int which = call;
                for (int what : new int[] {-1, most[call] + 1, Integer.MIN_VALUE, Integer.MAX_VALUE}) {
                    badArgument("call " + which + " of what " + what, () -> withWhat(x, which, what));
                }
                withWhat(x, which, 0);
                withWhat(x, which, most[call]);
            }
            due("all were counted", x.status(1), 4 + 4 * most.length);
        });
    }

    private static long withWhat(DarnEggs x, int call, int what) {
        switch (call) {
            case 0:
                return x.egg(0, what);
            case 1:
                return x.hand(0, what);
            case 2:
                return x.hole(0, what);
            case 3:
                return x.path(0, what);
            case 4:
                return x.ahead(1, what);
            case 5:
                return x.fits(what);
            case 6:
                return x.look(what);
            case 7:
                return x.first(1, 1, what);
            case 8:
                return x.ridge(1, 1, what);
            case 9:
                return x.worst(what);
            case 10:
                return x.ridges(what);
            case 11:
                return x.generation(1, 1, 1, what);
            default:
                return x.span(1, 1, 1, 1, what);
        }
    }

    private static void eggsAndHands() {
        says("Of an EGG: 0 N, 1 heels, 2 hooks, 3 the HOLE at which it is OUT (NONE), 4 1 HOOKED, 0 not, "
                + "5 how many heels it takes yet (0: HATCHED).", () -> {
            DarnEggs x = at("egg 3;egg 20;hand 9;hand 4;hole 60;hole 60;", "1",
                    "darn 0 0 0;darn 1 0 0;day;darn 0 0 0;let 0 1;");
            int[] want = {3, 3, 2, 1, 1, 0};
            int[] other = {20, 0, 0, -1, 0, 20};
            for (int what = 0; what < 6; what++) {
                due("egg(0, " + what + ")", x.egg(0, what), want[what]);
                due("egg(1, " + what + ")", x.egg(1, what), other[what]);
            }
            work(x, "call 0;let 0 0;");
            due("OUT at 0", x.egg(0, 3), 0);
            DarnEggs y = at("egg 4;hand 9;hand 4;hole 60;", "1", "darn 0 0 0;darn 1 0 0;");
            due("twice 1 are not more than 2", y.egg(0, 4), 0);
            due("two yet", y.egg(0, 5), 2);
            work(y, "day;darn 0 0 0;");
            due("twice 2 are more than 3", y.egg(0, 4), 1);
            due("one yet", y.egg(0, 5), 1);
        });
        says("NoSuchElementException: no such EGG, HAND, HOLE, PATH (so below, ahead of others).", () -> {
            DarnEggs x = at("egg 1;hand 1;hole 1;hole 1;path 0 1;");
            for (int none : new int[] {-1, 2, 99, Integer.MIN_VALUE, Integer.MAX_VALUE}) {
                for (int call = 0; call < 21; call++) {
                    int which = call;
                    noElement("call " + which + " of " + none, () -> withElement(x, which, none));
                }
            }
            noElement("EGG 1", () -> x.egg(1, 0));
            noElement("HAND 1", () -> x.hand(1, 0));
            noElement("PATH 1", () -> x.path(1, 0));
            due("all were counted", x.status(0), 5 * 21 + 3);
            due("none of the others", x.status(1), 0);
        });
        says("Of a HAND: 0 ANGER, 1 1 it darned this DAY, 0 not, 2 how often it darned by now.", () -> {
            DarnEggs x = at("egg 20;hand 0;hand 9;hole 60;wool 99;", "1", "again 19[darn 1 0 0;day;];darn 1 0 0;");
            due("ANGER", x.hand(1, 0), 9);
            due("this DAY", x.hand(1, 1), 1);
            due("how often", x.hand(1, 2), 20);
            due("ANGER", x.hand(0, 0), 0);
            due("not this DAY", x.hand(0, 1), 0);
            due("never", x.hand(0, 2), 0);
            work(x, "darn 0 0 0;");
            due("a REFUSED one is none", x.hand(0, 2), 0);
            due("a REFUSED one is none", x.hand(0, 1), 0);
        });
    }

    /** Each call with one argument that is no such thing; what else can be wrong is wrong, too. */
    private static long withElement(DarnEggs x, int call, int none) {
        switch (call) {
            case 0:
                return x.egg(none, 6);
            case 1:
                return x.hand(none, 3);
            case 2:
                return x.hole(none, 5);
            case 3:
                return x.path(none, 2);
            case 4:
                return x.mend(none, 0, 0);
            case 5:
                return x.mend(0, none, 0);
            case 6:
                return x.mend(0, 0, none);
            case 7:
                return x.can(none, 0, 0) ? 1 : 0;
            case 8:
                return x.can(0, none, 0) ? 1 : 0;
            case 9:
                return x.can(0, 0, none) ? 1 : 0;
            case 10:
                return x.whole(none);
            case 11:
                return x.best(none);
            case 12:
                return x.given(none, 0);
            case 13:
                return x.given(0, none);
            case 14:
                return x.round(none);
            case 15:
                return x.way(none, 0);
            case 16:
                return x.way(0, none);
            case 17:
                return x.wool(none, 1, 1);
            case 18:
                return x.wool(none, -1, 1);
            case 19:
                return x.wool(none, 1, 1000);
            default:
                return x.goes(none);
        }
    }

    private static void holesAndPaths() {
        says("Of a HOLE: 0 WEAR, 1 ridge, 2 WEAR as told, 3 HOLES a PATH leads to (bits), "
                + "4 EGGS of which something is OUT there (bits).", () -> {
            DarnEggs x = at("egg 1;egg 1;hand 0;hand 0;" + times(8, "hole 0;") + "hole 6;"
                    + "path 8 0;path 7 8;path 3 8;path 1 2;", "9", "darn 0 0 8;unpick 8;darn 1 1 8;let 1 8;let 0 8;");
            due("WEAR", x.hole(8, 0), 0);
            due("ridge", x.hole(8, 1), 6);
            due("as told", x.hole(8, 2), 6);
            due("PATHS", x.hole(8, 3), 137);
            due("PATHS back", x.hole(7, 3), 256);
            due("PATHS of another one", x.hole(2, 3), 2);
            due("no PATHS", x.hole(4, 3), 0);
            due("OUT there", x.hole(8, 4), 3);
            work(x, "let 0 4;");
            due("OUT there", x.hole(8, 4), 2);
            due("OUT there", x.hole(4, 4), 1);
            due("none OUT there", x.hole(0, 4), 0);
        });
        says("Of a PATH: 0 A, 1 B.", () -> {
            DarnEggs x = at("hole 1;hole 1;hole 1;path 2 0;path 0 1;");
            due("A", x.path(0, 0), 2);
            due("B", x.path(0, 1), 0);
            due("A", x.path(1, 0), 0);
            due("B", x.path(1, 1), 1);
        });
    }

    private static void mends() {
        says("MEND of a HAND, an EGG, a HOLE now.", () -> {
            DarnEggs x = at("egg 9;egg 9;hand 0;hand 9;hole 60;hole 7;hole 0;");
            due("without LAW", x.mend(0, 0, 0), 3);
            due("ANGER 9", x.mend(1, 0, 0), 0);
            work(x, "darn 0 1 0;darn 1 1 0;");
            due("heels 2", x.mend(0, 1, 0), 4);
            due("heels 0", x.mend(0, 0, 0), 3);
            law(x, "wear");
            due("20 at most", x.mend(0, 0, 0), 20);
            due("of the HOLE", x.mend(0, 0, 1), 7);
            due("WEAR 0", x.mend(0, 0, 2), 0);
            work(x, "day;darn 0 0 1;");
            due("now", x.mend(0, 0, 1), 0);
        });
        says("MEND by the LAW for such heels (0 to 20), anger (0 to 9), wear, ridge, wool (0 to 99 each), "
                + "hooks (0 to 20), day (0 to 600), hand (0 to 5).", () -> {
            int[] most = {20, 9, 99, 99, 99, 20, 600, 5};
            String[] words = {"heels", "anger", "wear", "ridge", "wool", "hooks", "day", "hand"};
            for (int i = 0; i < 8; i++) {
                DarnEggs x = new DarnEggs();
                law(x, words[i] + "-" + Math.max(0, most[i] - 15));
                due(words[i] + " at most", wouldBut(x, i, most[i]), Math.min(15, most[i]));
                due(words[i] + " at least", wouldBut(x, i, 0), 0);
                int which = i;
                badArgument(words[i] + " above", () -> wouldBut(x, which, most[which] + 1));
                badArgument(words[i] + " below", () -> wouldBut(x, which, -1));
                badArgument(words[i] + " far above", () -> wouldBut(x, which, Integer.MAX_VALUE));
                badArgument(words[i] + " far below", () -> wouldBut(x, which, Integer.MIN_VALUE));
                due("counted", x.status(1), 4);
            }
            due("HANDS need not be", new DarnEggs().would(20, 9, 99, 99, 99, 20, 600, 5), 10);
        });
        says("Whether darn could be done now.", () -> {
            DarnEggs x = at("egg 1;egg 9;hand 0;hand 0;hole 9;hole 0;wool 2;");
            due("it could", x.can(0, 0, 0), true);
            due("WEAR 0", x.can(0, 0, 1), false);
            work(x, "darn 0 0 0;");
            due("darned this DAY", x.can(0, 1, 0), false);
            due("HATCHED", x.can(1, 0, 0), false);
            due("another", x.can(1, 1, 0), true);
            work(x, "darn 1 1 0;day;");
            due("no wool", x.can(1, 1, 0), false);
            work(x, "shear 1;");
            due("wool", x.can(1, 1, 0), true);
        });
    }

    private static int wouldBut(DarnEggs x, int which, int value) {
        int[] a = new int[8];
        a[which] = value;
        return x.would(a[0], a[1], a[2], a[3], a[4], a[5], a[6], a[7]);
    }

    private static void ahead() {
        says("In n DAYS (0 to 99), nothing else being done: 0 WEAR of all HOLES together, 1 their ridges together, "
                + "2 HOLES of WEAR 0 (bits).", () -> {
            DarnEggs x = at("egg 1;hand 0;hole 3;hole 0;hole 9;moths 50;", "1", "darn 0 0 0;let 0 0;");
            due("now", x.ahead(0, 0), 11);
            due("now", x.ahead(0, 1), 0);
            due("now", x.ahead(0, 2), 2);
            due("in 2", x.ahead(2, 0), 9);
            due("in 2", x.ahead(2, 2), 3);
            due("in 5", x.ahead(5, 1), 3);
            due("in 49", x.ahead(49, 2), 3);
            due("in 50", x.ahead(50, 2), 0);
            due("in 99", x.ahead(99, 1), 96);
            due("in 99", x.ahead(99, 2), 1);
            badArgument("in 100", () -> x.ahead(100, 0));
            badArgument("in -1", () -> x.ahead(-1, 0));
            badArgument("both wrong", () -> x.ahead(-1, 3));
            due("no HOLES", new DarnEggs().ahead(99, 2), 0);
            due("nine of 0", at(times(9, "hole 0;")).ahead(99, 2), 511);
            due("nine of 60, by moths", at(times(9, "hole 60;") + "moths 1;").ahead(99, 0), 891);
        });
        says("WHOLE.", () -> {
            due("now", at("hole 0;").whole(0), 0);
            due("NONE", at("hole 1;").whole(0), -1);
            due("in 2", at("egg 1;hand 0;hole 3;", "1", "darn 0 0 0;let 0 0;").whole(0), 2);
        });
    }

    private static void bestAndGiven() {
        says("BEST by an EGG: what is taken off.", () -> {
            DarnEggs x = at("egg 1;egg 2;hand 0;hand 3;hole 9;hole 1;", "heels*3+1", "darn 0 1 0;day;");
            due("by EGG 0", x.best(0), 2);
            due("by EGG 1", x.best(1), 5);
            due("nothing", at("egg 1;").best(0), 0);
        });
        says("The HOLE of a HAND by BEST; NONE.", () -> {
            DarnEggs x = at("egg 1;egg 2;hand 0;hand 9;hole 1;hole 9;");
            due("HAND 0", x.given(0, 0), 1);
            due("HAND 1", x.given(0, 1), 0);
            due("by EGG 1", x.given(1, 0), 1);
            due("one HOLE for two", at("egg 1;hand 0;hand 0;hole 9;").given(0, 1), -1);
        });
    }

    private static void walks() {
        says("ROUND from a HOLE (0: there is nothing to come to, but itself).", () -> {
            due("none worn", at("hole 0;hole 0;path 0 1;").round(0), 0);
            due("itself", at("hole 0;hole 5;path 0 1;").round(1), 0);
            due("another one", at("hole 0;hole 5;path 0 1;").round(0), 1);
            due("NONE", at("hole 0;hole 5;").round(0), -1);
        });
        says("GUARDS, as bits.", () -> {
            due("HOLE 8", at(times(8, "hole 0;") + "hole 1;").guards(), 256);
            due("two", at("hole 1;hole 0;hole 1;").guards(), 5);
        });
        says("WAY (0: one HOLE).", () -> {
            DarnEggs x = at("hole 0;hole 0;hole 0;path 0 1;");
            due("one HOLE", x.way(1, 1), 0);
            due("one HOLE without PATHS", x.way(2, 2), 0);
            due("one PATH", x.way(1, 0), 1);
            due("NONE", x.way(1, 2), -1);
        });
    }

    private static void fitsAndLook() {
        says("FITS: 0 how many, 1 the first (10 times the HAND, and the EGG; NONE).", () -> {
            DarnEggs x = at("egg 1;egg 1;hand 9;hand 0;hole 9;");
            due("all", x.fits(0), 4);
            due("the first", x.fits(1), 0);
            book(x, "0 6;");
            due("HAND 1", x.fits(0), 2);
            due("HAND 1", x.fits(1), 10);
            book(x, "0 1;");
            due("none", x.fits(0), 0);
            due("none", x.fits(1), -1);
            due("no pairs", new DarnEggs().fits(0), 0);
            due("no pairs", new DarnEggs().fits(1), -1);
        });
        says("LOOK: 0 the HOLE, 1 how many are left at the worst; NONE both: all HOLES are in lines, or there are none.",
                () -> {
            DarnEggs x = at("egg 1;egg 1;hand 9;hand 0;hole 9;hole 0;");
            due("the HOLE", x.look(0), 0);
            due("left", x.look(1), 2);
            book(x, "0 6;");
            due("the other one", x.look(0), 1);
            due("left", x.look(1), 2);
            book(x, "0 6;1 0;");
            due("all in lines", x.look(0), -1);
            due("all in lines", x.look(1), -1);
            due("no HOLES", at("egg 1;hand 0;").look(0), -1);
            due("no HOLES", at("egg 1;hand 0;").look(1), -1);
        });
    }

    private static void firstAndRidge() {
        says("FIRST of n (1 to 12), q (0 to 16): above (part 0), below (part 1), in least terms.", () -> {
            DarnEggs x = new DarnEggs();
            due("4 of 16", x.first(1, 4, 0), 1);
            due("4 of 16", x.first(1, 4, 1), 4);
            due("q 0: nought of 1", x.first(12, 0, 0), 0);
            due("q 0: nought of 1", x.first(12, 0, 1), 1);
            due("q 16, the first: 1 of 1", x.first(1, 16, 0), 1);
            due("q 16, the first: 1 of 1", x.first(1, 16, 1), 1);
            due("q 16, not the first: nought of 1", x.first(12, 16, 0), 0);
            due("q 16, not the first: nought of 1", x.first(12, 16, 1), 1);
            due("q 1: above 32 bits", x.first(12, 1, 0), 8649755859375L);
            due("q 1: above 32 bits", x.first(12, 1, 1), 281474976710656L);
            for (int wrong : new int[] {0, 13, -1, Integer.MIN_VALUE, Integer.MAX_VALUE}) {
                badArgument("n " + wrong, () -> x.first(wrong, 1, 0));
            }
            for (int wrong : new int[] {-1, 17, Integer.MIN_VALUE, Integer.MAX_VALUE}) {
                badArgument("q " + wrong, () -> x.first(1, wrong, 0));
            }
            due("counted", x.status(1), 9);
        });
        says("RIDGE of two by v, w (0 to 99): 0 how many RESTS, 1 the first (10 times what the one does, 0 he unpicks, "
                + "1 he leaves it, and the other one; NONE), 2 what both have by it together (0 without).", () -> {
            DarnEggs x = new DarnEggs();
            due("both leave", x.ridge(99, 0, 0), 1);
            due("both leave", x.ridge(99, 0, 1), 11);
            due("both leave", x.ridge(99, 0, 2), 198);
            due("the one unpicks", x.ridge(0, 99, 0), 2);
            due("the one unpicks", x.ridge(0, 99, 1), 1);
            due("the one unpicks", x.ridge(0, 99, 2), 99);
            due("99 each: three", x.ridge(99, 99, 0), 3);
            due("99 each: the first", x.ridge(99, 99, 1), 1);
            due("99 each: 99 and 49", x.ridge(99, 99, 2), 148);
            due("0 each: all", x.ridge(0, 0, 0), 4);
            due("0 each: both unpick", x.ridge(0, 0, 1), 0);
            for (int wrong : new int[] {-1, 100, Integer.MIN_VALUE, Integer.MAX_VALUE}) {
                badArgument("v " + wrong, () -> x.ridge(wrong, 0, 0));
                badArgument("w " + wrong, () -> x.ridge(0, wrong, 0));
            }
        });
    }

    private static void wool() {
        says("What a HOLE gets of n (0 to 999) by WOOL among told HOLES (0, if it is none of them).", () -> {
            DarnEggs x = at("hole 5;hole 8;hole 2;");
            due("of 0", x.wool(0, 7, 0), 0);
            due("of 999", x.wool(1, 7, 999), 8);
            due("none of them", x.wool(1, 5, 999), 0);
            due("among those alone", x.wool(0, 5, 6), 4);
            badArgument("of 1000", () -> x.wool(0, 7, 1000));
            badArgument("of -1", () -> x.wool(0, 7, -1));
            badArgument("of 1000, none of them", () -> x.wool(1, 5, 1000));
        });
        says("IllegalArgumentException: bits of no HOLES.", () -> {
            DarnEggs x = at("hole 5;hole 8;hole 2;");
            badArgument("HOLE 3", () -> x.wool(0, 8, 1));
            badArgument("HOLE 3 with others", () -> x.wool(0, 15, 1));
            badArgument("HOLE 9", () -> x.wool(0, 512, 1));
            badArgument("all bits", () -> x.wool(0, -1, 1));
            badArgument("the highest", () -> x.wool(0, Integer.MIN_VALUE, 1));
            badArgument("the highest with others", () -> x.wool(0, Integer.MIN_VALUE + 7, 1));
            badArgument("all but the highest", () -> x.wool(0, Integer.MAX_VALUE, 1));
            due("all HOLES", x.wool(0, 7, 15), 5);
            DarnEggs y = at(times(9, "hole 1;"));
            due("all nine", y.wool(8, 511, 9), 1);
            badArgument("a 10th", () -> y.wool(8, 1023, 9));
            due("counted", x.status(1), 7);
        });
    }

    private static void worstAndGoes() {
        says("The HOLE of the greatest WEAR (what 0), of alike ones the first, that WEAR (1); "
                + "NONE both: all are of WEAR 0.", () -> {
            DarnEggs x = at("hole 0;hole 7;hole 3;hole 7;");
            due("the first", x.worst(0), 1);
            due("7", x.worst(1), 7);
            DarnEggs y = at("hole 0;hole 0;");
            due("all of 0", y.worst(0), -1);
            due("all of 0", y.worst(1), -1);
            due("no HOLES", new DarnEggs().worst(0), -1);
            due("no HOLES", new DarnEggs().worst(1), -1);
            DarnEggs z = at(times(8, "hole 0;") + "hole 1;");
            due("the last", z.worst(0), 8);
            due("1", z.worst(1), 1);
            due("HOLE 0", at("hole 7;hole 7;hole 6;").worst(0), 0);
        });
        says("Where what is OUT of an EGG would be behind the next DAY; NONE: it is not OUT.", () -> {
            DarnEggs x = at("egg 1;egg 9;hand 0;hole 3;hole 9;path 0 1;", "1", "darn 0 0 0;");
            due("HATCHED, not OUT", x.goes(0), -1);
            due("not HATCHED", x.goes(1), -1);
            work(x, "let 0 0;");
            due("stays", x.goes(0), 0);
            work(x, "day;");
            due("goes", x.goes(0), 1);
            due("it is there yet", x.egg(0, 3), 0);
            work(x, "call 0;");
            due("not OUT", x.goes(0), -1);
        });
    }

    private static void partsAndRidges() {
        says("How many sets of HOLES that hang together by PATHS there are (a single one is one).", () -> {
            due("no HOLES", new DarnEggs().parts(), 0);
            due("a single one", at("hole 0;").parts(), 1);
            due("nine", at(times(9, "hole 0;")).parts(), 9);
            due("two and one", at("hole 1;hole 1;hole 1;path 2 0;").parts(), 2);
            due("a ring and one", at("hole 1;hole 1;hole 1;hole 1;path 0 1;path 1 3;path 3 0;").parts(), 2);
            due("a chain that winds", at(times(9, "hole 0;")
                    + "path 0 8;path 8 1;path 1 7;path 7 2;path 2 6;path 6 3;path 3 5;path 5 4;").parts(), 1);
        });
        says("Ridges of all HOLES together (what 0), the HOLE of the greatest one "
                + "(1; of alike ones the first; NONE: there is none).", () -> {
            DarnEggs x = at("egg 9;hand 0;hand 0;hand 0;hole 3;hole 2;hole 2;");
            due("none", x.ridges(0), 0);
            due("none", x.ridges(1), -1);
            law(x, "4");
            work(x, "darn 0 0 2;darn 1 0 1;");
            due("2 and 2", x.ridges(0), 4);
            due("the first", x.ridges(1), 1);
            work(x, "darn 2 0 0;");
            due("and 1", x.ridges(0), 5);
            due("the greatest", x.ridges(1), 1);
            work(x, "unpick 1;");
            due("then", x.ridges(1), 2);
            work(x, "unpick 2;");
            due("a ridge of 1, of HOLE 0", x.ridges(1), 0);
            due("1", x.ridges(0), 1);
            due("no HOLES", new DarnEggs().ridges(1), -1);
            DarnEggs y = at("egg 9;hand 0;" + times(8, "hole 9;") + "hole 2;");
            due("nine without", y.ridges(1), -1);
            work(y, "darn 0 0 8;");
            due("of nine the last", y.ridges(1), 8);
            due("of nine the last", y.ridges(0), 1);
        });
    }

    private static void generations() {
        says("A GENERATION of so many DAYS (1 to 96), Q (0 to 16): 0 WEAR of all then, 1 ridges of all then, "
                + "2 EGGS that are HATCHED then (bits), 3 wool then.", () -> {
            DarnEggs x = at("egg 1;hand 0;hole 4;wool 3;");
            due("WEAR in 1", x.generation(1, 0, 1, 0), 1);
            due("HATCHED in 1", x.generation(1, 0, 1, 2), 1);
            due("wool in 1", x.generation(1, 0, 1, 3), 2);
            due("let at once", x.generation(1, 16, 1, 0), 0);
            due("ridges in 96", x.generation(1, 16, 96, 1), 95);
            due("wool in 96", x.generation(1, 16, 96, 3), 2);
            for (int wrong : new int[] {0, 97, -1, Integer.MIN_VALUE, Integer.MAX_VALUE}) {
                badArgument("days " + wrong, () -> x.generation(1, 0, wrong, 0));
            }
            for (int wrong : new int[] {-1, 17, Integer.MIN_VALUE, Integer.MAX_VALUE}) {
                badArgument("q " + wrong, () -> x.generation(1, wrong, 1, 0));
            }
            due("counted", x.status(1), 9);
        });
        says("Of so many SEEDS (1 to 20; seed, seed and 1, ..): 0 the least WEAR of all then, 1 the most, "
                + "2 by how many all EGGS are HATCHED then.", () -> {
            DarnEggs x = at("egg 1;egg 2;hand 0;hand 5;hole 9;hole 4;path 0 1;", "wear/2+hand", "");
            for (int seed : new int[] {1, -10, Integer.MAX_VALUE, Integer.MAX_VALUE - 19, Integer.MIN_VALUE}) {
                for (int many : new int[] {1, 2, 20}) {
                    spanOf(x, seed, many);
                }
            }
            due("without EGGS", at("hole 1;").span(1, 20, 0, 1, 2), 20);
            for (int wrong : new int[] {0, 21, -1, Integer.MIN_VALUE, Integer.MAX_VALUE}) {
                badArgument("many " + wrong, () -> x.span(1, wrong, 0, 1, 0));
            }
            for (int wrong : new int[] {0, 97, -1, Integer.MIN_VALUE, Integer.MAX_VALUE}) {
                badArgument("days " + wrong, () -> x.span(1, 1, 0, wrong, 0));
            }
            for (int wrong : new int[] {-1, 17, Integer.MIN_VALUE, Integer.MAX_VALUE}) {
                badArgument("q " + wrong, () -> x.span(1, 1, wrong, 1, 0));
            }
            due("counted", x.status(1), 14);
        });
    }

    private static void spanOf(DarnEggs x, int seed, int many) {
        int least = Integer.MAX_VALUE;
        int most = Integer.MIN_VALUE;
        int hatched = 0;
        for (int i = 0; i < many; i++) {
            int wear = x.generation(seed + i, 5, 4, 0);
            least = Math.min(least, wear);
            most = Math.max(most, wear);
            hatched += x.generation(seed + i, 5, 4, 2) == 3 ? 1 : 0;
        }
        due("the least of " + many + " from " + seed, x.span(seed, many, 5, 4, 0), least);
        due("the most of " + many + " from " + seed, x.span(seed, many, 5, 4, 1), most);
        due("HATCHED of " + many + " from " + seed, x.span(seed, many, 5, 4, 2), hatched);
        if (many == 20) {
            due("some, not all", hatched > 0 && hatched < 20 && least < most, true);
        }
    }

    private static void images() {
        says("An IMAGE of all that WORK changes, and of the WORKS that can be undone: how many there are; "
                + "-1: there are 3.", () -> {
            DarnEggs x = at(SMALL, "20", "darn 1 0 0;call 0;");
            String before = all(x);
            due("1", x.image(), 1);
            due("count", x.count(0), 1);
            due("2", x.image(), 2);
            due("3", x.image(), 3);
            work(x, "day;");
            due("there are 3", x.image(), -1);
            due("there are 3", x.count(0), 3);
            due("the latest is as it was", x.restore(), 2);
            due("DAY", x.told(4), 0);
            due("3 again", x.image(), 3);
            x.restore();
            x.restore();
            x.restore();
            same("state", state(x), before.substring(0, state(x).length()));
        });
        says("All is as in the latest IMAGE, which is gone: how many are left; -1: there is none.", () -> {
            DarnEggs x = at(SMALL, "20", "darn 1 0 0;day;darn 1 0 1;let 0 3;");
            due("none", x.restore(), -1);
            String first = state(x);
            x.image();
            x.undo();
            String second = state(x);
            x.image();
            work(x, "day;unpick 0;shear 9;");
            work(x, "day;call 0;");
            law(x, "4");
            book(x, "0 1;");
            due("one is left", x.restore(), 1);
            same("the second", state(x), second);
            due("its WORKS", x.count(2), 0);
            due("none to undo", x.undo(), -1);
            due("none is left", x.restore(), 0);
            same("the first", state(x), first);
            due("its WORKS", x.count(2), 1);
            due("the LAW stays", x.mend(0, 0, 0), 4);
            due("the BOOK stays", x.told(10), 1);
            due("it can be undone", x.undo(), 0);
            same("as told", state(x), state(at(SMALL)));
            due("none", x.restore(), -1);
            same("as told", state(x), state(at(SMALL)));
            manyWorksInImages();
        });
    }

    private static void manyWorksInImages() {
        DarnEggs x = at("hole 1;");
        for (int i = 0; i < 16; i++) {
            work(x, "day;");
        }
        x.image();
        for (int i = 0; i < 9; i++) {
            x.undo();
        }
        work(x, "shear 1;");
        work(x, "shear 2;");
        x.image();
        village(x, "x");
        x.undo();
        x.undo();
        due("the second", x.restore(), 1);
        due("its WORKS", x.count(2), 9);
        due("its DAY", x.told(4), 7);
        due("its wool", x.told(5), 15);
        due("the first", x.restore(), 0);
        due("its WORKS", x.count(2), 16);
        for (int left = 15; left >= 0; left--) {
            due("undo", x.undo(), left);
            due("DAY", x.told(4), left);
            due("wool", x.told(5), 12);
        }
    }

    private static void statusAndCount() {
        says("How many calls were refused: 0 NoSuchElementException, 1 IllegalArgumentException; NONE for others. "
                + "(No IMAGE keeps it.)", () -> {
            DarnEggs x = at("hole 1;");
            due("none", x.status(0), 0);
            due("none", x.status(1), 0);
            x.image();
            noElement("EGG", () -> x.egg(0, 9));
            noElement("HOLE", () -> x.wool(7, -1, -1));
            badArgument("told", () -> x.told(12));
            badArgument("would, all wrong, is one call", () -> x.would(-1, -1, -1, -1, -1, -1, -1, -1));
            badArgument("village", () -> x.village(1));
            x.restore();
            due("no IMAGE keeps it", x.status(0), 2);
            due("no IMAGE keeps it", x.status(1), 3);
            work(x, "unpick 0;");
            village(x, "x");
            x.status(9);
            x.count(9);
            due("FAULTS and REFUSED STEPS are none", x.status(1), 3);
            work(x, "day;");
            x.undo();
            village(x, "hole 1;");
            due("a new VILLAGE leaves it", x.status(0), 2);
            due("a new VILLAGE leaves it", x.status(1), 3);
            for (int other : new int[] {2, -1, Integer.MIN_VALUE, Integer.MAX_VALUE}) {
                due("status(" + other + ")", x.status(other), -1);
            }
        });
        says("0 IMAGES, 1 bytes of the TAPE, 2 WORKS that can be undone; NONE for others.", () -> {
            DarnEggs x = at("hole 1;");
            for (int what = 0; what < 3; what++) {
                due("count(" + what + ")", x.count(what), 0);
            }
            work(x, "day;");
            work(x, "call 0;");
            work(x, "");
            x.image();
            feed(x, times(40, " "));
            due("IMAGES", x.count(0), 1);
            due("bytes", x.count(1), 40);
            due("WORKS", x.count(2), 2);
            x.restore();
            due("bytes stay behind restore()", x.count(1), 40);
            x.undo();
            due("bytes stay behind undo()", x.count(1), 40);
            due("WORKS", x.count(2), 1);
            due("no IMAGE", x.count(0), 0);
            for (int other : new int[] {3, -1, Integer.MIN_VALUE, Integer.MAX_VALUE}) {
                due("count(" + other + ")", x.count(other), -1);
            }
            due("none was refused", x.status(1), 0);
        });
    }
}
