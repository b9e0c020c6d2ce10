import java.io.IOException;
import java.math.BigInteger;

/** What is asked (days ahead, BEST, ROUND, GUARDS, FITS, LOOK and their like), sentence by sentence. */
public final class DarnEggsAsked extends Sentences {
    private static final int[] SEEDS = {0, 1, -1, 12345, 987654321, -987654321, Integer.MAX_VALUE, Integer.MIN_VALUE};

    public static void main(String[] args) throws IOException {
        read("==== 3.", "## Promise 1:");
        asked();
        whole();
        best();
        round();
        guards();
        fits();
        look();
        wayAndFirst();
        ridge();
        wool();
        generation();
        draw();
        noWordLeftOut();
        end();
    }

    private static void askAll(DarnEggs x) {
        for (int what = 0; what < 3; what++) {
            x.ahead(99, what);
            x.ridge(40 + what, 41, what);
            x.generation(7, 16, 96, what);
            x.span(7, 20, 9, 50, what);
        }
        for (int p = 0; p < x.told(2); p++) {
            x.whole(p);
            x.round(p);
            x.way(0, p);
            x.wool(p, 15, 7);
        }
        for (int e = 0; e < x.told(0); e++) {
            x.best(e);
            x.given(e, 1);
            x.goes(e);
            x.mend(2, e, 1);
            x.can(2, e, 1);
        }
        x.would(1, 1, 1, 1, 1, 1, 1, 1);
        x.fits(1);
        x.look(1);
        x.first(3, 3, 0);
        x.worst(0);
        x.ridges(1);
        x.guards();
        x.parts();
        x.fault();
    }

    private static void asked() {
        says("Asked, nothing stays changed;", () -> {
            DarnEggs x = at(SMALL, "wear%5+heels", "darn 0 0 3;darn 1 0 0;day;darn 2 1 1;let 0 1;call 1;");
            book(x, "0 3;2 0;");
            x.image();
            x.feed(1, 2, 3, 4, 5);
            badArgument("a FAULT's place stays, too", () -> x.law(21));
            String before = all(x) + x.count(1) + x.fault();
            askAll(x);
            same("all", all(x) + x.count(1) + x.fault(), before);
            askAll(x);
            same("all", all(x) + x.count(1) + x.fault(), before);
        });
        says("DAYS go by as by day (beyond 600, too).", () -> {
            DarnEggs x = at("egg 1;egg 1;hand 0;hand 6;hole 9;hole 40;hole 0;path 0 1;path 1 2;moths 4;", "1",
                    "darn 0 0 0;darn 1 1 1;let 0 0;let 1 2;");
            for (int n = 0; n <= 30; n++) {
                int wear = x.ahead(n, 0);
                int ridges = x.ahead(n, 1);
                work(x, "again " + n + "[day;];");
                due("WEAR in " + n + " DAYS", wear, x.told(9));
                due("ridges in " + n + " DAYS", ridges, x.ridges(0));
                x.undo();
            }
            DarnEggs z = at("egg 1;hand 0;hole 9;moths 99;", "9", "darn 0 0 0;let 0 0;");
            for (int i = 0; i < 4; i++) {
                work(z, "again 30[day;day;day;day;day;];");
            }
            due("DAY", z.told(4), 600);
            due("no moths on DAY 692", z.ahead(92, 0), 0);
            due("moths on DAY 693", z.ahead(93, 0), 1);
            due("goes", z.goes(0), 0);
            due("none is REFUSED", z.generation(1, 0, 93, 0), 1);
        });
    }

    private static void whole() {
        says("WHOLE of a HOLE: in how many DAYS (0 to 200), nothing else being done, its WEAR is 0; NONE.", () -> {
            DarnEggs x = at("egg 1;hand 0;hole 60;hole 0;hole 60;hole 60;hole 20;path 0 2;path 2 3;path 3 4;", "0",
                    "darn 0 0 0;let 0 0;");
            due("now", x.whole(1), 0);
            due("60", x.whole(0), 60);
            due("200", x.whole(4), 200);
            DarnEggs y = at("egg 1;hand 0;hole 60;hole 60;hole 60;hole 21;path 0 1;path 1 2;path 2 3;", "0",
                    "darn 0 0 0;let 0 0;");
            due("201", y.whole(3), -1);
            work(y, "day;");
            due("200 by now", y.whole(3), 200);
            due("never", at("hole 1;").whole(0), -1);
            due("by 1", at("egg 1;hand 0;hole 2;", "1", "darn 0 0 0;let 0 0;").whole(0), 1);
            due("moths come behind", at("egg 1;hand 0;hole 2;moths 1;", "1", "darn 0 0 0;let 0 0;").whole(0), -1);
            due("ahead of the moths", at("hole 0;moths 1;").whole(0), 0);
        });
    }

    private static void best() {
        says("BEST by an EGG: of all ways to give HANDS that did not darn this DAY unlike HOLES (or none) "
                + "that by which what is taken off WEAR of all", () -> {
            due("more HANDS than HOLES", at("egg 1;" + times(6, "hand 0;") + "hole 9;hole 9;").best(0), 6);
            due("more HOLES than HANDS", at("egg 1;hand 0;hand 3;" + times(9, "hole 9;")).best(0), 5);
            due("no HANDS", at("egg 1;hole 9;").best(0), 0);
            due("no HOLES", at("egg 1;hand 0;").best(0), 0);
            due("no HOLES", at("egg 1;hand 0;").given(0, 0), -1);
            DarnEggs x = at("egg 9;hand 0;hand 0;hole 9;hole 9;", "4", "darn 0 0 0;");
            due("one darned this DAY", x.best(0), 4);
            due("it has none", x.given(0, 0), -1);
            due("the other one", x.given(0, 1), 0);
            work(x, "darn 1 0 1;");
            due("both darned", x.best(0), 0);
            due("none", x.given(0, 1), -1);
            work(x, "day;");
            due("the next DAY, 4 off 5 each", x.best(0), 8);
            DarnEggs y = at("egg 1;" + times(6, "hand 0;") + times(9, "hole 9;"));
            due("six HANDS", y.best(0), 18);
            village(y, "egg 1;hand 0;hand 0;hole 9;hole 9;hole 9;");
            due("two HANDS, behind six", y.best(0), 6);
            village(y, "egg 1;hole 9;");
            due("no HANDS, behind two", y.best(0), 0);
        });
        says("(MEND by this EGG as now, no more than WEAR, HATCHED or not, wool not asked) is most;", () -> {
            DarnEggs x = at("egg 9;egg 1;hand 0;hand 0;hole 20;hole 3;wool 2;", "heels*6+2", "darn 0 1 0;");
            due("by EGG 0", x.best(0), 2);
            due("by EGG 1, HATCHED", x.best(1), 8);
            work(x, "darn 1 0 1;day;");
            due("no wool", x.told(5), 0);
            due("by EGG 0: 8 and 1", x.best(0), 9);
            due("by EGG 1: 8 and 1", x.best(1), 9);
            due("WEAR 0", at("egg 1;hand 0;hole 0;").best(0), 0);
            DarnEggs y = at("egg 1;hand 0;hand 0;hole 9;hole 9;");
            law(y, "wool");
            due("MEND as now, for each", y.best(0), 18);
            law(y, "hand*3+1");
            due("1 and 4", y.best(0), 5);
        });
        says("of alike ways the first (HAND by HAND the least HOLE, none last).", () -> {
            DarnEggs x = at("egg 1;hand 0;hand 0;hand 0;hole 9;hole 9;");
            due("HAND 0", x.given(0, 0), 0);
            due("HAND 1", x.given(0, 1), 1);
            due("HAND 2", x.given(0, 2), -1);
            DarnEggs y = at("egg 1;hand 0;hand 0;hole 0;hole 0;hole 0;");
            due("none last: a HOLE of WEAR 0", y.given(0, 0), 0);
            due("none last: a HOLE of WEAR 0", y.given(0, 1), 1);
            DarnEggs z = at("egg 1;hand 9;hand 0;hand 0;hole 9;hole 9;hole 0;");
            // HAND 0 mends 0: HOLES 0 and 1 are worth more by the others, HOLE 2 is worth nothing
            due("the least by which it is most", z.given(0, 0), 2);
            due("then", z.given(0, 1), 0);
            due("then", z.given(0, 2), 1);
            DarnEggs w = at("egg 1;hand 9;hand 0;hand 0;hole 9;hole 9;");
            due("none, if each HOLE is worth more", w.given(0, 0), -1);
            due("then", w.given(0, 1), 0);
            DarnEggs v = at("egg 1;hand 0;hand 9;hand 0;hole 9;hole 9;");
            due("most", v.best(0), 6);
            due("HAND 0", v.given(0, 0), 0);
            due("HAND 1, between two, has none", v.given(0, 1), -1);
            due("HAND 2", v.given(0, 2), 1);
        });
    }

    private static void round() {
        says("ROUND from a HOLE: the fewest PATHS one goes along from it to come to all HOLES of WEAR above 0 "
                + "(some twice, if need be; back need not be); NONE.", () -> {
            DarnEggs x = at("hole 1;hole 1;hole 1;path 0 1;path 1 2;");
            due("back need not be", x.round(0), 2);
            due("some twice", x.round(1), 3);
            due("WEAR 0 need not be come to", at("hole 1;hole 1;hole 0;path 0 1;path 1 2;").round(0), 1);
            due("through WEAR 0", at("hole 1;hole 0;hole 1;path 0 1;path 1 2;").round(0), 2);
            due("from WEAR 0", at("hole 0;hole 0;hole 1;path 0 1;path 1 2;").round(0), 2);
            due("no way", at("hole 1;hole 1;hole 1;path 0 1;").round(0), -1);
            due("no way, but none worn there", at("hole 1;hole 1;hole 0;path 0 1;").round(0), 1);
            due("a ring", at("hole 1;hole 1;hole 1;hole 1;path 0 1;path 1 2;path 2 3;path 3 0;").round(2), 3);
            String star = times(9, "hole 1;") + "path 0 1;path 0 2;path 0 3;path 0 4;path 0 5;path 0 6;path 0 7;path 0 8;";
            due("a star", at(star).round(0), 15);
            due("a star", at(star).round(8), 14);
            DarnEggs y = at("hole 1;hole 0;hole 0;hole 1;path 0 1;path 1 3;");
            due("a way", y.round(0), 2);
            due("no way behind it", y.round(2), -1);
            due("and back", y.round(1), 3);
        });
    }

    private static void guards() {
        says("GUARDS: the fewest HOLES by which each one of WEAR above 0 is one of them, or has a PATH to one; "
                + "of as few the least bits.", () -> {
            due("no HOLES", new DarnEggs().guards(), 0);
            due("none worn", at("hole 0;hole 0;path 0 1;").guards(), 0);
            due("itself", at("hole 0;hole 1;").guards(), 2);
            due("one of two, the least", at("hole 1;hole 1;path 0 1;").guards(), 1);
            due("a PATH to one that is not worn", at("hole 0;hole 1;path 0 1;").guards(), 1);
            due("the fewest", at("hole 1;hole 1;hole 1;hole 0;path 0 3;path 1 3;path 2 3;").guards(), 8);
            due("not along two PATHS", at("hole 1;hole 0;hole 0;hole 1;path 0 1;path 1 2;path 2 3;").guards(), 5);
            due("a chain", at("hole 1;hole 1;hole 1;hole 1;path 0 1;path 1 2;path 2 3;").guards(), 5);
            due("nine alone", at(times(9, "hole 1;")).guards(), 511);
            due("nine alone, one not worn", at(times(8, "hole 1;") + "hole 0;").guards(), 255);
        });
    }

    private static void fits() {
        says("FITS by BOOK: pairs of a HAND and an EGG by which for each line a darn of that HOLE now, alone", () -> {
            DarnEggs x = at("egg 1;egg 2;hand 0;hand 3;hand 6;hole 9;hole 2;");
            due("without lines all", x.fits(0), 6);
            book(x, "0 7;");
            due("one line", x.fits(0), 2);
            book(x, "0 7;1 0;");
            due("two lines, each alone", x.fits(0), 2);
            book(x, "0 7;1 1;");
            due("not both", x.fits(0), 0);
            due("no HANDS", at("egg 1;hole 9;").fits(0), 0);
            due("no EGGS", at("hand 1;hole 9;").fits(0), 0);
        });
        says("(MEND as now, whether it could be done or not), would leave WEAR as told: how many, "
                + "the first (by HAND, then EGG).", () -> {
            DarnEggs x = at("egg 1;egg 9;hand 0;hand 0;hole 9;hole 0;wool 1;", "3", "darn 0 0 0;");
            due("no wool", x.told(5), 0);
            book(x, "0 3;1 0;");
            due("HATCHED, darned, no wool, WEAR 0", x.fits(0), 4);
            due("the first", x.fits(1), 0);
            law(x, "9");
            book(x, "0 0;");
            due("0 at least", x.fits(0), 4);
            law(x, "heels");
            book(x, "0 5;");
            due("by heels now", x.fits(0), 2);
            due("the first", x.fits(1), 0);
            book(x, "0 6;");
            due("the other EGG", x.fits(1), 1);
            law(x, "hand");
            book(x, "0 5;");
            due("the other HAND", x.fits(1), 10);
            DarnEggs y = at(times(6, "egg 2;") + times(6, "hand 0;") + "hole 9;", "hand+heels", "darn 0 5 0;");
            book(y, "0 3;");
            due("the last of all", y.fits(0), 1);
            due("the last of all", y.fits(1), 55);
        });
    }

    private static void look() {
        says("LOOK: the HOLE in no line by which, whatever would be left, fewest such pairs are left at the worst, "
                + "of these the first.", () -> {
            DarnEggs x = at("egg 1;hand 0;hand 3;hand 6;hole 1;hole 2;hole 9;hole 9;");
            // Mends 3, 2, 1: HOLE 0 leaves 0 by all, HOLE 1 leaves 0 by two, HOLE 2 and 3 leave unlike ones
            due("the HOLE", x.look(0), 2);
            due("left", x.look(1), 1);
            book(x, "2 7;");
            due("one pair is left anyhow: the first", x.look(0), 0);
            due("left", x.look(1), 1);
            book(x, "0 0;");
            due("in no line", x.look(0), 2);
            book(x, "2 9;");
            due("no such pairs: the first", x.look(0), 0);
            due("none left", x.look(1), 0);
            book(x, "0 0;1 0;2 6;3 6;");
            due("all in lines", x.look(0), -1);
            due("all in lines", x.look(1), -1);
            DarnEggs y = at("egg 1;hand 0;hand 3;hand 6;hole 2;hole 1;");
            due("0 and 1 are unlike: two, not three", y.look(0), 0);
            due("left", y.look(1), 2);
            DarnEggs z = at("hole 3;hole 4;");
            due("no HANDS, no EGGS", z.look(0), 0);
            due("left", z.look(1), 0);
            DarnEggs w = at(times(6, "egg 1;") + times(6, "hand 0;") + "hole 0;");
            due("all alike", w.look(1), 36);
            DarnEggs v = at("egg 1;hand 0;hand 0;hole 60;hole 59;moths 1;", "0", "again 30[day;];again 9[day;];");
            due("WEAR", v.told(9), 197);
            due("99 would be left by both", v.look(1), 2);
            book(v, "0 99;");
            due("98 would be left by both", v.look(1), 2);
        });
    }

    private static void wayAndFirst() {
        says("WAY of two HOLES: the fewest PATHS; NONE.", () -> {
            String chain = times(9, "hole 0;") + "path 0 1;path 1 2;path 2 3;path 3 4;path 4 5;path 5 6;path 6 7;path 7 8;";
            due("one HOLE", at(chain).way(3, 3), 0);
            due("one PATH", at(chain).way(3, 2), 1);
            due("eight", at(chain).way(0, 8), 8);
            due("eight back", at(chain).way(8, 0), 8);
            due("the fewest", at(chain + "path 0 6;").way(0, 8), 3);
            due("none", at("hole 1;hole 1;").way(0, 1), -1);
            DarnEggs x = at("hole 0;hole 0;hole 0;hole 0;path 0 1;path 1 3;");
            due("one that is", x.way(0, 3), 2);
            due("none behind it", x.way(2, 3), -1);
            due("none behind it", x.way(3, 2), -1);
        });
        says("FIRST of n, q: each darn hooks by q of 16, each by itself: how likely the n-th is the first that does.",
                () -> {
            DarnEggs x = new DarnEggs();
            for (int n = 1; n <= 12; n++) {
                for (int q = 0; q <= 16; q++) {
                    BigInteger above = BigInteger.valueOf(16 - q).pow(n - 1).multiply(BigInteger.valueOf(q));
                    BigInteger below = BigInteger.valueOf(16).pow(n);
                    BigInteger by = above.gcd(below);
                    due("above of " + n + ", " + q, x.first(n, q, 0), above.divide(by).longValueExact());
                    due("below of " + n + ", " + q, x.first(n, q, 1), below.divide(by).longValueExact());
                }
            }
        });
    }

    /** What the one has who does a (0 unpicks, 1 leaves) where the other one does b. */
    private static int has(int v, int w, int a, int b) {
        int[][] table = {{-w, w}, {v / 2, v}};
        return table[a][b];
    }

    private static void ridge() {
        says("RIDGE of two by v, w: each unpicks it or leaves it: both leave: each has v; both unpick: each has "
                + "0 less w; one unpicks: he has w, the other one v by 2 (cut); RESTS: neither would have more by the "
                + "other thing.", () -> {
            DarnEggs x = new DarnEggs();
            for (int v = 0; v <= 99; v++) {
                for (int w = 0; w <= 99; w++) {
                    int rests = 0;
                    int first = -1;
                    int both = 0;
                    for (int i = 3; i >= 0; i--) {
                        int a = i / 2;
                        int b = i % 2;
                        if (has(v, w, 1 - a, b) <= has(v, w, a, b) && has(v, w, 1 - b, a) <= has(v, w, b, a)) {
                            rests++;
                            first = 10 * a + b;
                            both = has(v, w, a, b) + has(v, w, b, a);
                        }
                    }
                    due("ridge(" + v + ", " + w + ", 0)", x.ridge(v, w, 0), rests);
                    due("ridge(" + v + ", " + w + ", 1)", x.ridge(v, w, 1), first);
                    due("ridge(" + v + ", " + w + ", 2)", x.ridge(v, w, 2), both);
                }
            }
            due("both unpick, by 0", x.ridge(1, 0, 1), 0);
            due("one leaves a half, cut", x.ridge(9, 9, 2), 13);
        });
    }

    private static void wool() {
        says("WOOL of n among told HOLES (bits) by WEAR: levelled: no more than that each, no more than a bound, "
                + "the greatest by which no more than n are given (all, if they are no more).", () -> {
            DarnEggs x = at("hole 5;hole 8;hole 0;hole 2;");
            due("no more than WEAR", x.wool(3, 15, 9), 2);
            due("no more than the bound", x.wool(0, 15, 9), 3);
            due("3 and 3 and 2 are 8, 10 would be too many", x.wool(1, 15, 9), 3);
            due("10 are not", x.wool(1, 15, 10), 4);
            due("all, 15", x.wool(1, 15, 15), 8);
            due("one less", x.wool(1, 15, 14), 7);
            due("one more", x.wool(1, 15, 16), 8);
            due("2 for three", x.wool(1, 15, 2), 0);
            due("3 for three", x.wool(1, 15, 3), 1);
            due("0", x.wool(1, 15, 0), 0);
            due("WEAR 0", x.wool(2, 15, 99), 0);
            due("alone", x.wool(1, 2, 7), 7);
            due("told HOLES alone", x.wool(1, 6, 7), 7);
            due("all of WEAR 0", x.wool(2, 4, 0), 0);
            due("none told", x.wool(1, 0, 99), 0);
            DarnEggs y = at(times(9, "hole 60;") + "moths 1;", "1", "again 30[day;day;];");
            due("nine of WEAR 99, 890", y.wool(8, 511, 890), 98);
            due("nine of WEAR 99, 891", y.wool(8, 511, 891), 99);
            due("nine of WEAR 99, 999", y.wool(0, 511, 999), 99);
        });
    }

    private static void generation() {
        says("A GENERATION by a SEED: for so many DAYS: DRAW by how many HANDS, by how many EGGS, by how many HOLES: "
                + "darn (if it can be done); DRAW by 16 below Q: let of that EGG to that HOLE (if it can); then day.",
                () -> {
            for (int seed : SEEDS) {
                drawnThings(seed);
            }
            DarnEggs x = at("egg 1;hand 0;hole 9;wool 0;");
            due("a darn that can't be done", x.generation(1, 0, 9, 2), 0);
            due("nor can be let", x.generation(1, 16, 9, 0), 9);
            DarnEggs y = at("egg 1;hand 0;hole 9;", "1", "darn 0 0 0;let 0 0;");
            due("HATCHED: no darn, but it is OUT", y.generation(1, 0, 3, 0), 5);
            due("its wool stays", y.generation(1, 0, 3, 3), 11);
            DarnEggs z = at("egg 20;hand 0;hole 60;", "1", "darn 0 0 0;");
            due("darned this DAY: a darn on two of three", z.generation(1, 0, 3, 0), 57);
            due("and no let of one that is not HATCHED", z.generation(1, 16, 3, 0), 57);
        });
        says("Without HANDS, EGGS or HOLES nothing is DRAWN, DAYS go by.", () -> {
            due("without HANDS", at("egg 1;hole 9;moths 2;").generation(3, 16, 9, 0), 13);
            due("without EGGS", at("hand 1;hole 9;moths 2;").generation(3, 16, 9, 0), 13);
            due("without HOLES", at("egg 1;hand 1;moths 2;").generation(3, 16, 9, 2), 0);
            DarnEggs x = at("egg 9;hand 1;hole 9;");
            village(x, "egg 9;hand 1;hole 9;");
            village(x, "hand 1;hole 9;moths 2;");
            due("without EGGS, behind VILLAGES with", x.generation(3, 16, 9, 0), 13);
            due("without all", new DarnEggs().generation(3, 16, 96, 3), 12);
            due("without all", new DarnEggs().span(3, 20, 16, 96, 1), 0);
        });
    }

    /** What is left of the n-th DRAW (from 1 on), by numbers of any length. */
    private static int drawn(int seed, int n, int by) {
        BigInteger s = BigInteger.valueOf(seed);
        for (int i = 0; i < n; i++) {
            s = s.multiply(BigInteger.valueOf(1103515245)).add(BigInteger.valueOf(12345));
        }
        return s.mod(BigInteger.ONE.shiftLeft(31)).shiftRight(16).intValueExact() % by;
    }

    private static void drawnThings(int seed) {
        DarnEggs x = at("egg 1;" + times(6, "hand 0;") + "hole 60;", "hand+1", "");
        due("the HAND by " + seed, x.generation(seed, 0, 1, 0), 60 - drawn(seed, 1, 6) - 1);
        DarnEggs y = at(times(6, "egg 1;") + "hand 0;hole 60;");
        due("the EGG by " + seed, y.generation(seed, 0, 1, 2), 1 << drawn(seed, 2, 6));
        DarnEggs z = at("egg 1;hand 0;hole 1;hole 2;hole 3;hole 4;hole 5;hole 6;hole 7;hole 8;hole 9;", "wear", "");
        int hole = drawn(seed, 3, 9);
        due("the HOLE by " + seed, z.generation(seed, 0, 1, 0), 44 - hole);
        // Let out there it finds WEAR 0: the ridge is 1 more
        int last = drawn(seed, 4, 16);
        due("DRAW by 16 as Q", z.generation(seed, last, 1, 1), 0);
        due("DRAW by 16 below Q", z.generation(seed, last + 1, 1, 1), 1);
        due("Q 0", z.generation(seed, 0, 1, 1), 0);
        due("Q 16", z.generation(seed, 16, 1, 1), 1);
        DarnEggs w = at("egg 20;hand 0;hole 20;hole 20;hole 20;", "wear/20*2+wear%20/15", "");
        due("four DRAWS each DAY", w.generation(seed, 16, 12, 0), worn(seed));
    }

    private static int worn(int seed) {
        int[] wear = {20, 20, 20};
        for (int day = 0; day < 12; day++) {
            int hole = drawn(seed, 4 * day + 3, 3);
            wear[hole] -= wear[hole] / 20 * 2 + wear[hole] % 20 / 15;
        }
        return wear[0] + wear[1] + wear[2];
    }

    private static void draw() {
        says("DRAW: the SEED (32 bits) becomes itself times 1,103,515,245, and 12,345 (it wraps); its bits 16 to 30, "
                + "what is left of them.", () -> {
            // 0 becomes 12345, of which bits 16 to 30 are 0
            due("SEED 0: HAND 0", at("egg 1;hand 0;hand 0;hole 9;", "hand+1", "").generation(0, 0, 1, 0), 8);
            // 1 becomes 1103527590, of which they are 16838
            for (int hands = 1; hands <= 6; hands++) {
                DarnEggs x = at("egg 1;" + times(hands, "hand 0;") + "hole 9;", "hand+1", "");
                due("SEED 1, HANDS " + hands, x.generation(1, 0, 1, 0), 9 - 16838 % hands - 1);
            }
            // -1 becomes -1103502900, of which they are 15929: bit 31 is none of them
            for (int hands = 1; hands <= 6; hands++) {
                DarnEggs x = at("egg 1;" + times(hands, "hand 0;") + "hole 9;", "hand+1", "");
                due("SEED -1, HANDS " + hands, x.generation(-1, 0, 1, 0), 9 - 15929 % hands - 1);
            }
        });
    }
}
