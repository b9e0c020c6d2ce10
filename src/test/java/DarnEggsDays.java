import java.io.IOException;

/** What STEPS and days do, and when a STEP is REFUSED, sentence by sentence. */
public final class DarnEggsDays extends Sentences {
    private static final String SIX_DAYS = "day;day;day;day;day;day;";

    public static void main(String[] args) throws IOException {
        read("==== 2.", "==== 3.");
        atFirst();
        twoHundredSteps();
        darnRefused();
        darn();
        letAndCall();
        unpickAndShear();
        lastDay();
        parts();
        ways();
        moths();
        noWordLeftOut();
        end();
    }

    /** The STEP is REFUSED, and nothing but that is to be seen. */
    private static void refused(DarnEggs x, String step) {
        String before = state(x);
        due("\"" + step + "\" done", work(x, step), 0);
        due("\"" + step + "\" refused", x.told(11), 1);
        same("what \"" + step + "\" leaves", state(x), before);
    }

    private static void done(DarnEggs x, String step) {
        due("\"" + step + "\" done", work(x, step), 1);
        due("\"" + step + "\" refused", x.told(11), 0);
    }

    /** Egg 0 is HATCHED, and what came of it is OUT at HOLE 0 of WEAR 0 without a ridge, on DAY 0. */
    private static DarnEggs outAtWhole(String more) {
        return at("egg 1;hand 0;hole 3;" + more, "3", "darn 0 0 0;let 0 0;");
    }

    private static void atFirst() {
        says("It is DAY 0 at first, no heel was darned, there are no ridges, hooks, nothing is OUT.", () -> {
            DarnEggs x = at(SMALL, "20", "darn 1 0 0;day;darn 1 0 3;let 0 1;day;darn 0 1 1;");
            due("a ridge", x.ridges(0) > 0, true);
            due("darned this DAY", x.told(8), 1);
            village(x, SMALL);
            due("DAY", x.told(4), 0);
            due("HATCHED", x.told(6), 0);
            due("OUT", x.told(7), 0);
            due("darned this DAY", x.told(8), 0);
            due("ridges", x.ridges(0), 0);
            for (int e = 0; e < 2; e++) {
                due("heels", x.egg(e, 1), 0);
                due("hooks", x.egg(e, 2), 0);
                due("not OUT", x.egg(e, 3), -1);
                due("not HOOKED", x.egg(e, 4), 0);
            }
            for (int h = 0; h < 3; h++) {
                due("darned", x.hand(h, 2), 0);
            }
            same("as a new object's", state(x), state(at(SMALL)));
        });
        says("An EGG is HATCHED by as many heels as it takes, or more.", () -> {
            DarnEggs x = at("egg 2;hand 0;hand 0;hole 9;", "1", "darn 0 0 0;");
            due("one of two", x.told(6), 0);
            due("one yet", x.egg(0, 5), 1);
            work(x, "darn 1 0 0;");
            due("two of two", x.told(6), 1);
            due("none yet", x.egg(0, 5), 0);
        });
        says("STEPS are done in order;", () -> {
            DarnEggs x = at("egg 1;hand 0;hole 9;");
            due("let ahead of darn", work(x, "let 0 0;darn 0 0 0;"), 1);
            due("refused", x.told(11), 1);
            x.undo();
            due("darn ahead of let", work(x, "darn 0 0 0;let 0 0;"), 2);
            due("refused", x.told(11), 0);
            due("an again's, turn by turn", work(x, "again 2[call 0;let 0 0;call 0;];let 0 0;"), 6);
            due("refused", x.told(11), 1);
        });
        says("one that can't be done is REFUSED, and changes nothing;", () -> {
            DarnEggs x = at("egg 9;egg 1;hand 0;hole 9;hole 0;wool 99;");
            for (String step : new String[] {"darn 0 0 1;", "let 0 0;", "call 0;", "unpick 0;", "shear 1;"}) {
                refused(x, step);
            }
            due("those behind it are done", work(x, "unpick 0;darn 0 1 0;call 0;let 1 1;"), 2);
            due("refused", x.told(11), 2);
        });
    }

    private static void twoHundredSteps() {
        says("200 STEPS at most are begun by one WORK (an again, too, each time it is come to; REFUSED ones, too), "
                + "what would come behind is left out.", () -> {
            // 1 and 180 STEPS, then 1 and 18: these are 200
            DarnEggs x = at("egg 1;hole 1;");
            due("200", work(x, "again 30[" + SIX_DAYS + "];again 18[day;];shear 1;"), 198);
            due("days", x.told(4), 198);
            due("no 201st", x.told(5), 12);
            due("what is left out is not REFUSED", x.told(11), 0);
            DarnEggs y = at("egg 1;hole 1;");
            due("199 and one", work(y, "again 30[" + SIX_DAYS + "];again 17[day;];shear 1;shear 1;"), 198);
            due("the 200th", y.told(5), 13);
            due("the next WORK has its own", work(y, "again 30[" + SIX_DAYS + "];"), 180);
            DarnEggs z = at("egg 1;hole 1;");
            String none = times(6, "again 0[];");
            due("agains each time", work(z, "again 30[" + none + "];again 18[again 0[];];shear 1;"), 0);
            due("no 201st", z.told(5), 12);
            due("agains each time", work(z, "again 30[" + none + "];again 17[again 0[];];shear 1;"), 1);
            due("the 200th", z.told(5), 13);
            DarnEggs w = at("egg 1;hole 1;");
            due("REFUSED ones", work(w, "again 30[" + times(6, "call 0;") + "];again 19[call 0;];day;"), 0);
            due("how many", w.told(11), 198);
            due("200 within an again", work(w, "again 30[again 30[again 30[day;];];];"), 191);
            due("empty ones", work(w, "again 30[again 30[again 30[];];];day;"), 0);
        });
    }

    private static void darnRefused() {
        says("darn (REFUSED, if there is no wool, E is HATCHED, H darned this DAY, or WEAR of P is 0):", () -> {
            refused(at("egg 9;hand 0;hole 9;wool 0;"), "darn 0 0 0;");
            done(at("egg 9;hand 0;hole 9;wool 1;"), "darn 0 0 0;");
            DarnEggs x = at("egg 1;egg 9;hand 0;hand 0;hole 9;hole 9;hole 1;hole 0;", "1", "darn 0 0 2;");
            refused(x, "darn 1 0 0;");
            refused(x, "darn 0 1 0;");
            refused(x, "darn 1 1 2;");
            refused(x, "darn 1 1 3;");
            done(x, "darn 1 1 1;");
            done(x, "day;");
            refused(x, "darn 0 0 0;");
            done(x, "darn 0 1 0;");
            refused(x, "darn 0 1 1;");
            DarnEggs y = at("egg 9;hand 0;hand 0;hole 9;wool 1;", "1", "darn 0 0 0;");
            refused(y, "darn 1 0 0;");
        });
    }

    private static void darn() {
        says("WEAR of P is less by MEND, 0 at least;", () -> {
            for (int mend = 0; mend <= 20; mend++) {
                DarnEggs x = at("egg 9;hand 0;hole 12;hole 9;", "" + mend, "darn 0 0 0;");
                due("12 less " + mend, x.hole(0, 0), Math.max(0, 12 - mend));
                due("ridge", x.hole(0, 1), Math.max(0, mend - 12));
                due("another HOLE", x.hole(1, 0), 9);
                due("heels", x.egg(0, 1), 1);
            }
        });
        says("what MEND is above WEAR comes to the ridge of P (99 at most);", () -> {
            DarnEggs x = at("egg 20;hand 0;hole 1;hole 4;wool 99;moths 1;", "20", "darn 0 0 0;");
            due("19", x.hole(0, 1), 19);
            due("another HOLE", x.hole(1, 1), 0);
            work(x, "again 4[day;darn 0 0 0;];");
            due("five times 19", x.hole(0, 1), 95);
            work(x, "day;darn 0 0 0;");
            due("99 at most", x.hole(0, 1), 99);
            work(x, "day;darn 0 0 0;");
            due("99 and no more", x.hole(0, 1), 99);
            DarnEggs y = at("egg 20;hand 0;hole 1;moths 1;", "20", "again 5[darn 0 0 0;day;];");
            law(y, "5");
            work(y, "darn 0 0 0;");
            due("95 and 4", y.hole(0, 1), 99);
        });
        says("one wool less;", () -> {
            DarnEggs x = at("egg 9;hand 0;hand 0;hole 9;wool 2;", "0", "darn 0 0 0;");
            due("one", x.told(5), 1);
            work(x, "darn 1 0 0;");
            due("none", x.told(5), 0);
        });
        says("one heel more for E, and one hook more, if ANGER of H is 5 or more;", () -> {
            DarnEggs x = at("egg 9;egg 9;hand 4;hand 5;hand 9;hole 60;", "1", "darn 0 0 0;");
            due("heels", x.egg(0, 1), 1);
            due("ANGER 4", x.egg(0, 2), 0);
            work(x, "darn 1 0 0;");
            due("heels", x.egg(0, 1), 2);
            due("ANGER 5", x.egg(0, 2), 1);
            work(x, "darn 2 0 0;");
            due("heels", x.egg(0, 1), 3);
            due("ANGER 9", x.egg(0, 2), 2);
            due("another EGG's heels", x.egg(1, 1), 0);
            due("another EGG's hooks", x.egg(1, 2), 0);
        });
        says("H has darned once more, and this DAY.", () -> {
            DarnEggs x = at("egg 9;hand 0;hand 0;hole 60;", "1", "darn 1 0 0;day;darn 1 0 0;");
            due("twice", x.hand(1, 2), 2);
            due("this DAY", x.hand(1, 1), 1);
            due("bits", x.told(8), 2);
            due("another HAND", x.hand(0, 2), 0);
            due("another HAND", x.hand(0, 1), 0);
        });
    }

    private static void letAndCall() {
        says("let (REFUSED, if E is not HATCHED, or is at P): what came of E is OUT at P.", () -> {
            DarnEggs x = at("egg 2;egg 1;hand 0;hand 0;hole 9;hole 9;", "1", "darn 0 0 0;darn 1 1 0;");
            refused(x, "let 0 0;");
            done(x, "let 1 0;");
            due("OUT at 0", x.egg(1, 3), 0);
            refused(x, "let 1 0;");
            done(x, "let 1 1;");
            due("OUT at 1", x.egg(1, 3), 1);
            due("bits", x.told(7), 2);
            due("at 0 no more", x.hole(0, 4), 0);
            due("at 1", x.hole(1, 4), 2);
            work(x, "day;darn 0 0 0;");
            done(x, "let 0 1;");
            due("two at one HOLE", x.hole(1, 4), 3);
        });
        says("call (REFUSED, if it is not OUT): it is OUT no more.", () -> {
            DarnEggs x = at("egg 1;egg 1;hand 0;hand 0;hole 9;", "1", "darn 0 0 0;darn 1 1 0;");
            refused(x, "call 0;");
            work(x, "let 0 0;");
            refused(x, "call 1;");
            done(x, "call 0;");
            due("OUT no more", x.egg(0, 3), -1);
            due("bits", x.told(7), 0);
            refused(x, "call 0;");
            done(x, "let 0 0;");
        });
    }

    private static void unpickAndShear() {
        says("unpick (REFUSED, if there is no ridge): WEAR of P is more by its ridge (99 at most), the ridge is 0, "
                + "there is half of it (cut) more wool (99 at most).", () -> {
            DarnEggs x = outAtWhole("hole 5;wool 50;");
            refused(x, "unpick 0;");
            work(x, "day;");
            done(x, "unpick 0;");
            due("WEAR", x.hole(0, 0), 1);
            due("ridge", x.hole(0, 1), 0);
            due("half of 1", x.told(5), 49);
            refused(x, "unpick 0;");
            due("another HOLE", x.hole(1, 0), 5);
            unpickMuch();
        });
        says("shear: N more wool (99 at most; REFUSED, if it is 99).", () -> {
            DarnEggs x = at("hole 1;wool 58;", "1", "shear 40;");
            due("58 and 40", x.told(5), 98);
            done(x, "shear 1;");
            due("98 and 1", x.told(5), 99);
            refused(x, "shear 1;");
            refused(x, "shear 40;");
            DarnEggs y = at("hole 1;wool 98;", "1", "shear 40;");
            due("99 at most", y.told(5), 99);
            DarnEggs z = at("hole 1;wool 0;", "1", "shear 1;");
            due("0 and 1", z.told(5), 1);
        });
    }

    private static void unpickMuch() {
        // A ridge of 99 is 99 days' part; WEAR is 0 there
        DarnEggs x = outAtWhole("wool 50;");
        work(x, "again 30[day;day;day;];again 9[day;];");
        due("ridge", x.hole(0, 1), 99);
        done(x, "unpick 0;");
        due("0 and 99", x.hole(0, 0), 99);
        due("49 and 49", x.told(5), 98);
        DarnEggs y = outAtWhole("wool 52;");
        work(y, "again 30[day;day;day;];again 8[day;];");
        done(y, "unpick 0;");
        due("0 and 98", y.hole(0, 0), 98);
        due("51 and 49, 99 at most", y.told(5), 99);
        // The moths make it 1 on DAY 99, behind the 99th day's part
        DarnEggs z = outAtWhole("wool 51;moths 99;");
        work(z, "again 30[day;day;day;];again 9[day;];");
        due("WEAR", z.hole(0, 0), 1);
        done(z, "unpick 0;");
        due("1 and 99, 99 at most", z.hole(0, 0), 99);
        due("50 and 49", z.told(5), 99);
        DarnEggs w = outAtWhole("wool 9;");
        work(w, "day;day;day;unpick 0;");
        due("half of 3", w.told(5), 9);
        work(w, "call 0;shear 40;");
        due("REFUSED by a ridge of 0 alone", work(w, "unpick 0;"), 0);
    }

    private static void lastDay() {
        says("day (REFUSED from DAY 600 on): see below.", () -> {
            DarnEggs x = at("egg 1;hand 0;hole 9;hole 9;moths 7;", "1", "darn 0 0 0;let 0 1;");
            for (int i = 0; i < 3; i++) {
                work(x, "again 30[" + SIX_DAYS + "];");
            }
            work(x, "again 29[day;day;];day;");
            due("DAY", x.told(4), 599);
            done(x, "day;");
            due("DAY", x.told(4), 600);
            refused(x, "day;");
            due("others are done", work(x, "day;shear 1;call 0;day;"), 2);
            due("refused", x.told(11), 2);
            due("DAY", x.told(4), 600);
        });
    }

    private static void parts() {
        says("A day: what is OUT does its part, by numbers of EGGS:", () -> {
            // EGG 0 is HOOKED: 2 more, then EGG 1: 1 less; the other way round WEAR 0 would have come to a ridge
            DarnEggs x = at("egg 1;egg 1;hand 5;hand 0;hole 9;hole 0;", "1", "darn 0 0 0;darn 1 1 0;let 1 1;let 0 1;day;");
            due("WEAR", x.hole(1, 0), 1);
            due("ridge", x.hole(1, 1), 0);
            DarnEggs y = at("egg 1;egg 1;hand 0;hand 5;hole 9;hole 0;", "1", "darn 0 0 0;darn 1 1 0;let 1 1;let 0 1;day;");
            due("WEAR", y.hole(1, 0), 2);
            due("ridge", y.hole(1, 1), 1);
            DarnEggs z = at("egg 1;hand 0;hole 9;hole 5;", "1", "darn 0 0 0;day;");
            due("what is not OUT does nothing", z.told(9), 13);
        });
        says("one that is HOOKED (twice its hooks are more than its heels) makes WEAR 2 more where it is (99 at most);",
                () -> {
            DarnEggs x = at("egg 2;egg 3;hand 5;hand 0;hole 60;hole 7;", "0", "darn 0 0 0;darn 1 0 0;day;");
            due("one of two", x.egg(0, 4), 0);
            work(x, "darn 0 1 0;day;darn 0 1 0;darn 1 1 0;");
            due("two of three", x.egg(1, 4), 1);
            work(x, "let 0 1;day;");
            due("1 less", x.hole(1, 0), 6);
            work(x, "call 0;let 1 1;day;");
            due("2 more", x.hole(1, 0), 8);
            due("it is there yet", x.egg(1, 3), 1);
            DarnEggs y = at("egg 1;hand 5;hole 60;", "0", "darn 0 0 0;let 0 0;");
            due("98", y.ahead(19, 0), 98);
            due("99 at most", y.ahead(20, 0), 99);
            due("99 at most", y.ahead(21, 0), 99);
            work(y, "again 20[day;];");
            due("99 at most", y.hole(0, 0), 99);
            DarnEggs z = at("egg 1;hand 5;hole 59;moths 77;", "0", "darn 0 0 0;let 0 0;");
            due("97 and 2", z.ahead(20, 0), 99);
        });
        says("another one makes WEAR 1 less, or, if it is 0 already, the ridge 1 more (99 at most).", () -> {
            DarnEggs x = at("egg 1;hand 0;hole 2;", "1", "darn 0 0 0;let 0 0;day;");
            due("1 less", x.hole(0, 0), 0);
            due("no ridge", x.hole(0, 1), 0);
            work(x, "day;");
            due("0", x.hole(0, 0), 0);
            due("1 more", x.hole(0, 1), 1);
            due("98", x.ahead(97, 1), 98);
            due("99", x.ahead(98, 1), 99);
            due("99 at most", x.ahead(99, 1), 99);
        });
    }

    /** EGG 0 is OUT at HOLE 0, which its WEAR lets be 0 behind the next day. */
    private static DarnEggs onOne(String more) {
        return at("egg 1;hand 0;hole 2;" + more, "1", "darn 0 0 0;let 0 0;");
    }

    private static int behindADay(DarnEggs x) {
        due("goes as it would", x.goes(0), nextAt(x));
        work(x, "day;");
        return x.egg(0, 3);
    }

    private static int nextAt(DarnEggs x) {
        work(x, "day;");
        int at = x.egg(0, 3);
        x.undo();
        return at;
    }

    private static void ways() {
        says("If WEAR is 0 there then, it goes along a PATH to the HOLE of the greatest WEAR by then, "
                + "of alike ones the least, if this is above 0 (else it stays; a HOOKED one, too).", () -> {
            due("to the greatest", behindADay(onOne("hole 3;hole 4;path 0 1;path 2 0;")), 2);
            due("of alike ones the least", behindADay(onOne("hole 4;hole 4;path 2 0;path 0 1;")), 1);
            due("along a PATH alone", behindADay(onOne("hole 3;hole 9;path 0 1;path 1 2;")), 1);
            due("above 0 by 1", behindADay(onOne("hole 1;path 0 1;")), 1);
            due("else it stays", behindADay(onOne("hole 0;hole 9;path 0 1;")), 0);
            due("without PATHS", behindADay(onOne("hole 9;")), 0);
            DarnEggs x = outAtWhole("hole 5;path 1 0;");
            due("from 0 already", behindADay(x), 1);
            due("its ridge", x.hole(0, 1), 1);
            DarnEggs y = at("egg 1;hand 0;hole 3;hole 9;path 0 1;", "1", "darn 0 0 0;let 0 0;");
            due("not from 1", behindADay(y), 0);
            due("but from 0", behindADay(y), 1);
            due("a part a day", y.hole(1, 0), 9);
            DarnEggs z = at("egg 1;hand 5;hole 1;hole 9;path 0 1;", "1", "darn 0 0 0;let 0 0;");
            due("WEAR", z.hole(0, 0), 0);
            due("a HOOKED one stays", behindADay(z), 0);
            byThen();
        });
    }

    private static void byThen() {
        // EGG 0 takes 1 off HOLE 1, which is as HOLE 2 then; EGG 1 comes behind it
        DarnEggs x = at("egg 1;egg 1;hand 0;hand 0;hole 3;hole 6;hole 5;path 0 1;path 0 2;", "1",
                "darn 0 0 0;darn 1 1 0;let 0 1;let 1 0;day;");
        due("WEAR", x.hole(1, 0), 5);
        due("as it is by then, of alike ones the least", x.egg(1, 3), 1);
        DarnEggs y = at("egg 1;egg 1;hand 0;hand 0;hole 3;hole 5;hole 5;path 0 1;path 0 2;", "1",
                "darn 0 0 0;darn 1 1 0;let 0 1;let 1 0;day;");
        due("as it is by then", y.egg(1, 3), 2);
        DarnEggs z = at("egg 1;egg 1;hand 0;hand 0;hole 3;hole 5;hole 5;path 0 1;path 0 2;", "1",
                "darn 0 0 0;darn 1 1 0;let 1 1;let 0 0;day;");
        due("not as one behind it leaves it", z.egg(0, 3), 1);
        DarnEggs w = at("egg 1;hand 0;hole 2;hole 0;path 0 1;moths 1;", "1", "darn 0 0 0;let 0 0;day;");
        due("ahead of the moths", w.egg(0, 3), 0);
        due("which come to both", w.told(9), 2);
    }

    private static void moths() {
        says("Then DAY is one more; if it is a multiple of N of the moths then, "
                + "WEAR of all HOLES is 1 more (99 at most).", () -> {
            DarnEggs x = at("hole 0;hole 60;hole 7;moths 3;", "1", "day;");
            due("DAY", x.told(4), 1);
            due("DAY 1", x.told(9), 67);
            work(x, "day;");
            due("DAY 2", x.told(9), 67);
            work(x, "day;");
            due("DAY 3, three HOLES", x.told(9), 70);
            work(x, "day;day;");
            due("DAY 5", x.told(9), 70);
            work(x, "day;");
            due("DAY 6", x.told(9), 73);
            DarnEggs y = at("hole 60;hole 59;moths 1;");
            due("99 and 98", y.ahead(39, 0), 197);
            due("99 at most", y.ahead(40, 0), 198);
            due("99 at most", y.ahead(41, 0), 198);
            work(y, "again 30[day;day;];");
            due("99 at most", y.hole(0, 0), 99);
            due("99 at most", y.hole(1, 0), 99);
            DarnEggs z = onOne("moths 1;");
            work(z, "day;");
            due("behind what is OUT", z.hole(0, 0), 1);
            due("no ridge", z.hole(0, 1), 0);
        });
        says("No HAND has darned this DAY.", () -> {
            DarnEggs x = at("egg 9;hand 0;hand 0;hole 9;", "1", "darn 0 0 0;darn 1 0 0;");
            due("both", x.told(8), 3);
            due("can't", x.can(0, 0, 0), false);
            work(x, "day;");
            due("none", x.told(8), 0);
            due("not this DAY", x.hand(0, 1), 0);
            due("can", x.can(0, 0, 0), true);
            due("how often", x.hand(0, 2), 1);
        });
    }
}
