import java.io.IOException;
import java.util.ArrayList;
import java.util.List;

/** The document's texts, sentence by sentence: the VILLAGE, the LAW, WORK, the BOOK, and FAULTS. */
public final class DarnEggsTexts extends Sentences {
    private static final String FACTS = "egg 20;egg 20;hand 0;hand 6;hole 60;hole 6;wool 19;moths 2;";
    private static final String LEAST_NUMBER = "512*512*512*16";

    public static void main(String[] args) throws IOException {
        read("## Terms", "==== 2.");
        villageOfClauses();
        villagePaths();
        villageNumbers();
        lawBounds();
        lawSums();
        lawWords();
        lawValues();
        workText();
        bookText();
        reading();
        faults();
        noWordLeftOut();
        end();
    }

    // ---- the village -----------------------------------------------------------------------

    private static void villageOfClauses() {
        says("A VILLAGE is a text of up to 600 bytes:", () -> {
            DarnEggs x = new DarnEggs();
            due("0 bytes", x.village(0), 0);
            due("600 bytes", village(x, times(593, " ") + "hole 7;"), 1);
            due("its last clause", x.hole(0, 0), 7);
            feed(x, times(600, " "));
            badArgument("601 bytes", () -> x.village(601));
            due("the TAPE stays", x.count(1), 600);
            due("600 blanks", x.village(600), 0);
        });
        says("{ CLAUSE \";\" }, at most 60.", () -> {
            villageIs("", 0);
            villageIs("hole 1;", 1);
            villageIs(times(59, "wool 1;") + "hole 1;", 1);
            villageIs(times(60, "wool 1;") + "  ", 0);
            villageFault(times(61, "wool 1;"), 3, 420);
            villageFault(times(60, "wool 1;") + " hole 1;", 3, 421);
            villageFault("hole 1", 1, 6);
            villageFault("hole 1;;", 1, 7);
            villageFault("hole 1,", 1, 6);
        });
        says("CLAUSE: \"egg\" N (EGGS, numbered from 0 on, 6 at most: hatches by N heels, 1 to 20),", () -> {
            DarnEggs x = at("egg 1;egg 20;egg 3;egg 4;egg 5;egg 6;");
            due("six", x.told(0), 6);
            due("from 0 on", x.egg(0, 0), 1);
            due("20", x.egg(1, 0), 20);
            due("the last", x.egg(5, 0), 6);
            noElement("a 7th", () -> x.egg(6, 0));
            villageFault("egg 0;", 2, 4);
            villageFault("egg 21;", 2, 4);
            villageFault(times(7, "egg 1;"), 3, 36);
            DarnEggs y = at("egg 20;hand 0;hole 60;wool 99;", "1", "again 19[darn 0 0 0;day;];");
            due("19 heels of 20", y.told(6), 0);
            work(y, "darn 0 0 0;");
            due("20 heels of 20", y.told(6), 1);
            due("1 heel of 1", at("egg 1;hand 0;hole 9;", "1", "darn 0 0 0;").told(6), 1);
        });
        says("\"hand\" A (HANDS likewise, 6: ANGER A, 0 to 9),", () -> {
            DarnEggs x = at("hand 0;hand 9;hand 3;hand 4;hand 5;hand 6;");
            due("six", x.told(1), 6);
            due("from 0 on", x.hand(0, 0), 0);
            due("9", x.hand(1, 0), 9);
            due("the last", x.hand(5, 0), 6);
            noElement("a 7th", () -> x.hand(6, 0));
            villageFault("hand 10;", 2, 5);
            villageFault(times(7, "hand 0;"), 3, 42);
        });
        says("\"hole\" W (HOLES likewise, 9: WEAR W, 0 to 60),", () -> {
            DarnEggs x = at("hole 0;hole 60;" + times(6, "hole 3;") + "hole 8;");
            due("nine", x.told(2), 9);
            due("from 0 on", x.hole(0, 0), 0);
            due("60", x.hole(1, 0), 60);
            due("the last", x.hole(8, 0), 8);
            noElement("a 10th", () -> x.hole(9, 0));
            villageFault("hole 61;", 2, 5);
            villageFault(times(10, "hole 0;"), 3, 63);
        });
    }

    private static String paths(int n) {
        StringBuilder b = new StringBuilder();
        int made = 0;
        for (int a = 1; a < 6; a++) {
            for (int c = 0; c < a && made < n; c++) {
                b.append("path ").append(a).append(' ').append(c).append(';');
                made++;
            }
        }
        return b.toString();
    }

    private static void villagePaths() {
        says("\"path\" A B (PATHS likewise, 14: between HOLES A and B, both told ahead, not one, "
                + "not two that a PATH is between),", () -> {
            String six = times(6, "hole 1;");
            DarnEggs x = at(six + paths(14));
            due("fourteen", x.told(3), 14);
            due("from 0 on", x.path(0, 0), 1);
            due("the last", x.path(13, 0), 5);
            due("the last", x.path(13, 1), 3);
            noElement("a 15th", () -> x.path(14, 0));
            villageFault(six + paths(15), 3, 42 + 14 * 9);
            villageFault("path 0 1;hole 1;hole 1;", 2, 5);
            villageFault("hole 1;path 1 0;hole 1;", 2, 12);
            villageFault("hole 1;path 0 1;hole 1;", 2, 14);
            villageIs("hole 1;hole 1;path 1 0;hole 1;path 2 1;path 0 2;", 3);
            villageFault("hole 1;hole 1;path 1 1;", 2, 21);
            villageFault("hole 1;path 0 0;", 2, 14);
            villageFault("hole 1;hole 1;path 0 1;path 0 1;", 2, 30);
            villageFault("hole 1;hole 1;path 0 1;path 1 0;", 2, 30);
            villageFault(times(9, "hole 1;") + "path 8 9;", 2, 70);
            villageIs(times(9, "hole 1;") + "path 8 0;path 7 8;", 9);
        });
    }

    private static void villageNumbers() {
        says("\"wool\" N (0 to 99; 12 without; the last counts),", () -> {
            due("0", at("wool 0;").told(5), 0);
            due("99", at("wool 99;").told(5), 99);
            villageFault("wool 100;", 2, 5);
            due("without", at("hole 1;").told(5), 12);
            due("the last", at("wool 99;wool 0;wool 7;").told(5), 7);
            DarnEggs x = at("wool 7;");
            village(x, "");
            due("without, behind one with", x.told(5), 12);
        });
        says("or \"moths\" N (on each N-th DAY, 1 to 99; never without; the last counts).", () -> {
            due("each DAY", at("hole 0;moths 1;").ahead(7, 0), 7);
            DarnEggs x = at("hole 0;moths 99;");
            due("98 DAYS", x.ahead(98, 0), 0);
            due("99 DAYS", x.ahead(99, 0), 1);
            work(x, times(30, "day;"));
            work(x, times(30, "day;"));
            due("129", x.ahead(69, 0), 1);
            work(x, "again 30[day;day;];");
            due("197", x.ahead(77, 0), 1);
            due("198", x.ahead(78, 0), 2);
            due("never", at("hole 0;").ahead(99, 0), 0);
            due("the last", at("hole 0;moths 2;moths 5;").ahead(9, 0), 1);
            villageFault("moths 0;", 2, 6);
            villageFault("moths 100;", 2, 6);
            village(x, "hole 0;");
            due("never, behind one with", x.ahead(99, 0), 0);
        });
    }

    // ---- the law ---------------------------------------------------------------------------

    private static void lawBounds() {
        says("A LAW is a text of up to 150 bytes:", () -> {
            DarnEggs x = new DarnEggs();
            due("150 bytes", law(x, "1" + times(74, "+0") + "0"), 1);
            due("its value", x.would(0, 0, 0, 0, 0, 0, 0, 0), 1);
            feed(x, times(151, " "));
            badArgument("151 bytes", () -> x.law(151));
            due("the TAPE stays", x.count(1), 160);
            due("150 blanks", x.law(150), -9);
            due("the length", x.fault(), 150);
        });
        says("E, at the end nothing more;", () -> {
            lawGives("7", 7);
            lawGives("7   ", 7);
            lawFault("7 7", 1, 2);
            lawFault("7;", 1, 1);
            lawFault("7)", 1, 1);
            lawFault("7]", 1, 1);
            lawFault("7,7", 1, 1);
            lawFault("7 heels", 1, 2);
            lawFault("7(7)", 1, 1);
            lawFault("", 1, 0);
        });
        says("without: 3 + heels / 2 - anger / 3.", () -> {
            DarnEggs x = new DarnEggs();
            for (int heels = 0; heels <= 20; heels++) {
                for (int anger = 0; anger <= 9; anger++) {
                    due("heels " + heels + ", anger " + anger, x.would(heels, anger, 1, 2, 3, 4, 5, 1),
                            3 + heels / 2 - anger / 3);
                }
            }
            DarnEggs y = at(SMALL);
            law(y, "9");
            village(y, SMALL);
            due("a new VILLAGE is without", y.mend(0, 0, 0), 3);
        });
        says("MEND, what a darn mends: what comes out, 0 at least, 20 at most.", () -> {
            lawGives("0", 0);
            lawGives("0-1", 0);
            lawGives("0-999*999", 0);
            lawGives("1", 1);
            lawGives("19", 19);
            lawGives("20", 20);
            lawGives("21", 20);
            lawGives("999*999", 20);
            lawGives("(0-1)+21", 20);
            lawGives("25-9", 16);
        });
    }

    private static void lawSums() {
        says("E: T { + or - T }.", () -> {
            lawGives("9-3-2", 4);
            lawGives("9-3+2", 8);
            lawGives("9+3-2", 10);
            lawFault("9+", 1, 2);
            lawFault("+9", 1, 0);
            lawFault("-9", 1, 0);
            lawFault("9--2", 1, 2);
            lawFault("9+;", 1, 2);
        });
        says("T: U { * or / or % U }.", () -> {
            lawGives("12/4/3", 1);
            lawGives("12/4*3", 9);
            lawGives("17%10%4", 3);
            lawGives("7%4*2", 6);
            lawGives("2+3*4", 14);
            lawGives("9-6/3", 7);
            lawGives("9-7%4-1", 5);
            lawGives("2*3+4", 10);
            lawFault("2*", 1, 2);
            lawFault("*2", 1, 0);
            lawFault("2*-1", 1, 2);
            lawFault("2/+1", 1, 2);
        });
        says("U: N (0 to 999),", () -> {
            lawGives("0", 0);
            lawGives("999/50", 19);
            lawGives("999-990", 9);
            lawFault("1000", 2, 0);
            lawFault("1+1000", 2, 2);
            lawFault("4294967297", 2, 0);
            lawFault("99999999999999999999999999999999", 2, 0);
        });
    }

    /** Each fact has a value of its own: heels 5, anger 6, wear 2, ridge 8, wool 14, hooks 3, day 4, hand 1. */
    private static DarnEggs withFacts() {
        DarnEggs x = at(FACTS, "14", "darn 0 1 1;");
        law(x, "0");
        due("work", work(x, "again 3[darn 1 1 0;day;];day;darn 0 1 0;"), 8);
        return x;
    }

    private static void fact(String word, int want, int wantOfFirst) {
        DarnEggs x = withFacts();
        due("law", law(x, word), 1);
        due("mend of hand 1, egg 1, hole 1", x.mend(1, 1, 1), want);
        due("mend of hand 0, egg 0, hole 0", x.mend(0, 0, 0), wantOfFirst);
    }

    private static void lawWords() {
        says("\"heels\" (of the EGG by now),", () -> fact("heels", 5, 0));
        says("\"anger\" (of the HAND),", () -> fact("anger", 6, 0));
        says("\"wear\" (of the HOLE by now),", () -> {
            fact("wear", 2, 20);
            fact("wear/10", 0, 6);
        });
        says("\"ridge\" (of it),", () -> fact("ridge", 8, 0));
        says("\"wool\" (there is),", () -> fact("wool", 14, 14));
        says("\"hooks\" (of the EGG),", () -> fact("hooks", 3, 0));
        says("\"day\",", () -> fact("day", 4, 4));
        says("\"hand\" (its number),", () -> fact("hand", 1, 0));
        says("\"least\" \"[\" E \",\" E \"]\",", () -> {
            lawGives("least[3,5]", 3);
            lawGives("least[5,3]", 3);
            lawGives("least[4,4]", 4);
            lawGives("least[0-9,5]+15", 6);
            lawGives("least[1+8,2*3]*2", 12);
            lawGives("least[least[9,7],8]", 7);
            lawFault("least", 1, 5);
            lawFault("least(1,2)", 1, 5);
            lawFault("least[1 2]", 1, 8);
            lawFault("least[1,2", 1, 9);
            lawFault("least[1,2)", 1, 9);
            lawFault("least[,2]", 1, 6);
            lawFault("least[1,]", 1, 8);
            lawFault("least[1]", 1, 7);
            lawFault("least[]", 1, 6);
        });
        says("\"most\" \"[\" E \",\" E \"]\",", () -> {
            lawGives("most[3,5]", 5);
            lawGives("most[5,3]", 5);
            lawGives("most[4,4]", 4);
            lawGives("most[0-9,0-5]+15", 10);
            lawGives("most[1+8,2*3]*2", 18);
            lawFault("most(1,2)", 1, 4);
            lawFault("most[1,2,3]", 1, 8);
            lawFault("most[1;2]", 1, 6);
        });
        says("or \"(\" E \")\".", () -> {
            lawGives("(7)", 7);
            lawGives("9-(3-2)", 8);
            lawGives("2*(3+4)", 14);
            lawGives("16/(8/4)", 8);
            lawFault("()", 1, 1);
            lawFault("(7", 1, 2);
            lawFault("(7]", 1, 2);
            lawFault("[7]", 1, 0);
            lawFault("(7,7)", 1, 2);
        });
    }

    private static void lawValues() {
        says("Values are whole numbers of 32 bits that wrap;", () -> {
            lawGives(LEAST_NUMBER, 0);
            lawGives(LEAST_NUMBER + "-1", 20);
            lawGives("0-" + LEAST_NUMBER, 0);
            lawGives("0-" + LEAST_NUMBER + "-1", 20);
            lawGives("512*512*512*32+5", 5);
            lawGives("(" + LEAST_NUMBER + "-1)+(" + LEAST_NUMBER + "-1)+9", 7);
            lawGives("(" + LEAST_NUMBER + "-1)*3-(" + LEAST_NUMBER + "-1)+2+7", 7);
            lawGives("most[" + LEAST_NUMBER + ",3]", 3);
            lawGives("least[" + LEAST_NUMBER + "-1,3]", 3);
            lawGives("least[" + LEAST_NUMBER + ",1]", 0);
        });
        says("/ cuts,", () -> {
            lawGives("7/2", 3);
            lawGives("(0-7)/2+9", 6);
            lawGives("7/(0-2)+9", 6);
            lawGives("(0-7)/(0-2)", 3);
            lawGives("1/2", 0);
            lawGives(LEAST_NUMBER + "/(0-1)", 0);
            lawGives("(" + LEAST_NUMBER + "/(0-1))-1", 20);
        });
        says("% leaves (with the sign of what is divided),", () -> {
            lawGives("7%2", 1);
            lawGives("(0-7)%2+9", 8);
            lawGives("7%(0-2)", 1);
            lawGives("(0-7)%(0-2)+9", 8);
            lawGives("6%3+4", 4);
            lawGives("2%5", 2);
            lawGives(LEAST_NUMBER + "%(0-1)+4", 4);
        });
        says("by 0 both are 0.", () -> {
            lawGives("5/0", 0);
            lawGives("5%0", 0);
            lawGives("5/0+4", 4);
            lawGives("5%0+4", 4);
            lawGives("0/0+3", 3);
            lawGives("0%0+3", 3);
            lawGives("9/(2-2)+1", 1);
            DarnEggs x = new DarnEggs();
            law(x, "9/heels+9%anger");
            due("by heels of 0", x.would(0, 4, 0, 0, 0, 0, 0, 0), 1);
            due("by anger of 0", x.would(3, 0, 0, 0, 0, 0, 0, 0), 3);
        });
    }

    // ---- work ------------------------------------------------------------------------------

    private static void workText() {
        says("WORK is a text of up to 150 bytes: { STEP \";\" }.", () -> {
            DarnEggs x = at(SMALL);
            due("0 bytes", x.work(0), 0);
            due("150 bytes", work(x, times(37, "day;") + "  "), 37);
            feed(x, times(151, " "));
            badArgument("151 bytes", () -> x.work(151));
            due("the TAPE stays", x.count(1), 160);
            due("150 blanks", x.work(150), 0);
            workFault("day", 1, 3);
            workFault("day,", 1, 3);
            workFault(";", 1, 0);
            workFault("day;;", 1, 4);
        });
        says("STEP: \"darn\" H E P (HAND, EGG, HOLE),", () -> {
            workDoes("darn 2 1 3;", 1, 0);
            workFault("darn 3 1 3;", 2, 5);
            workFault("darn 2 2 3;", 2, 7);
            workFault("darn 2 1 4;", 2, 9);
            workFault("darn 2 1;", 1, 8);
            workFault("darn 2 1 3 0;", 1, 11);
            workFault("darn;", 1, 4);
            DarnEggs x = at(SMALL, "1", "darn 2 1 3;");
            due("the HAND", x.hand(2, 2), 1);
            due("the EGG", x.egg(1, 1), 1);
            due("the HOLE", x.hole(3, 0), 1);
        });
        says("\"let\" E P,", () -> {
            workDoes("let 1 3;", 0, 1);
            workFault("let 2 3;", 2, 4);
            workFault("let 1 4;", 2, 6);
            workFault("let 1;", 1, 5);
            workFault("let 1 3 1;", 1, 8);
        });
        says("\"call\" E,", () -> {
            workDoes("call 1;", 0, 1);
            workFault("call 2;", 2, 5);
            workFault("call;", 1, 4);
            workFault("call 1 1;", 1, 7);
        });
        says("\"unpick\" P,", () -> {
            workDoes("unpick 3;", 0, 1);
            workFault("unpick 4;", 2, 7);
            workFault("unpick;", 1, 6);
            workFault("unpick 3 3;", 1, 9);
        });
        says("\"shear\" N (1 to 40),", () -> {
            workDoes("shear 1;", 1, 0);
            workDoes("shear 40;", 1, 0);
            workFault("shear 0;", 2, 6);
            workFault("shear 41;", 2, 6);
            workFault("shear;", 1, 5);
        });
        says("\"day\",", () -> {
            workDoes("day;", 1, 0);
            workFault("day 1;", 1, 4);
        });
        says("or \"again\" N \"[\" { STEP \";\" } \"]\" (N 0 to 30).", () -> {
            workDoes("again 0[day;];", 0, 0);
            workDoes("again 1[day;];", 1, 0);
            workDoes("again 30[day;];", 30, 0);
            workDoes("again 30[];", 0, 0);
            workDoes("again 2[again 3[day;shear 1;];];", 12, 0);
            workFault("again 31[day;];", 2, 6);
            workFault("again [day;];", 1, 6);
            workFault("again 2 day;", 1, 8);
            workFault("again 2(day;);", 1, 7);
            workFault("again 2[day];", 1, 11);
            workFault("again 2[day;;];", 1, 12);
            workFault("again 2[day;", 1, 12);
            workFault("again 2[day;]", 1, 13);
            workFault("again 2[day;)", 1, 12);
            workFault("day;];", 1, 4);
            DarnEggs without = new DarnEggs();
            due("a HAND where there is none", work(without, "darn 0 0 0;"), -8);
            due("its place", without.fault(), 5);
            due("days without HOLES", work(without, "again 3[day;];"), 3);
        });
    }

    // ---- the book --------------------------------------------------------------------------

    private static void bookText() {
        String nine = times(9, "hole 9;") + "egg 1;hand 0;";
        String eight = "0 1;1 1;2 1;3 1;4 1;5 1;6 1;7 1;";
        says("A BOOK is one of up to 60 bytes: { P W \";\" }, 8 lines at most,", () -> {
            DarnEggs x = at(nine);
            due("60 bytes", book(x, times(56, " ") + "0 1;"), 1);
            feed(x, times(61, " "));
            badArgument("61 bytes", () -> x.book(61));
            due("the TAPE stays", x.count(1), 80);
            due("60 blanks", x.book(60), 0);
            bookHas(x, "", 0);
            bookHas(x, eight, 8);
            bookFault(x, eight + "8 1;", 3, 32);
            bookFault(x, "0 1", 1, 3);
            bookFault(x, "0;", 1, 1);
            bookFault(x, "0 1;;", 1, 4);
            bookFault(x, "0 1 2;", 1, 4);
            due("the BOOK stays", x.told(10), 8);
        });
        says("no P twice:", () -> {
            DarnEggs x = at(nine);
            bookFault(x, "0 1;0 1;", 2, 4);
            bookFault(x, "8 1;3 1;4 4; 8 2;", 2, 13);
            bookHas(x, "8 1;3 1;", 2);
            bookHas(x, "3 2;8 1;", 2);
        });
        says("a darn of HOLE P left W (0 to 99).", () -> {
            DarnEggs x = at(nine);
            bookHas(x, "0 0;8 99;", 2);
            bookFault(x, "0 100;", 2, 2);
            bookFault(x, "9 1;", 2, 0);
            DarnEggs y = at("hole 1;");
            bookHas(y, "0 1;", 1);
            bookFault(y, "1 1;", 2, 0);
            bookFault(new DarnEggs(), "0 0;", 2, 0);
        });
    }

    // ---- numbers, words, blanks --------------------------------------------------------------

    private static void reading() {
        says("Numbers: digits, as many as stand there;", () -> {
            due("0020", at("egg 0020;").egg(0, 0), 20);
            due("many noughts", at("hole " + times(200, "0") + "60;").hole(0, 0), 60);
            villageFault("hole 060 1;", 1, 9);
            villageFault("hole 1;hole 1;path 01;", 1, 21);
            villageFault("hole 4294967296;", 2, 5);
            villageFault("hole 18446744073709551616;", 2, 5);
            villageFault("hole " + times(300, "9") + ";", 2, 5);
            villageFault("hole 1x;", 1, 6);
            villageFault("hole +1;", 1, 5);
            villageFault("hole -1;", 1, 5);
            villageFault("hole /;", 1, 5);
            villageFault("hole :;", 1, 5);
            lawGives("00012", 12);
        });
        says("WORDS: small letters, as many as stand there;", () -> {
            villageIs("hole1;", 1);
            villageFault("holes 1;", 1, 0);
            villageFault("holehole 1;", 1, 0);
            villageFault("hol 1;", 1, 0);
            villageFault("Hole 1;", 1, 0);
            villageFault("HOLE 1;", 1, 0);
            villageFault("holE 1;", 1, 0);
            villageFault("hole`1;", 1, 4);
            villageFault("hole{1;", 1, 4);
            villageFault("holea 1;", 1, 0);
            villageFault("holez 1;", 1, 0);
            lawFault("heelsheels", 1, 0);
            lawFault("heels1", 1, 5);
            lawFault("mostleast[1,2]", 1, 0);
            workFault("daye;", 1, 0);
            workFault("days;", 1, 0);
            workFault("againday", 1, 0);
            workDoes("again2[day;];", 2, 0);
            otherWords();
        });
        says("blanks (32) may stand ahead of all these, and at the end.", () -> {
            villageIs("   hole   1   ;   hole 1 ; path 0   1 ;   ", 2);
            villageIs("hole1;hole1;path0 1;wool3;moths4;egg1;hand0;", 2);
            lawGives("  least  [  3 ,  heels + 1 ]  * ( 2 )  ", 4);
            workDoes("  again   2  [  day  ;  ]  ;  ", 2, 0);
            bookHas(at(SMALL), "  0   1  ;  1  2  ;  ", 2);
            villageFault("ho le 1;", 1, 0);
            villageFault("hole 1 0;", 1, 7);
            villageFault("hole\t1;", 1, 4);
            villageFault("hole 1;\n", 1, 7);
            villageFault("hole 1;\u0000", 1, 7);
            villageFault("hole 1;\u00a0", 1, 7);
            lawFault("1\r", 1, 1);
        });
    }

    /** Each word with one letter less, more, or another one in its place is no word. */
    private static void otherWords() {
        for (String word : new String[] {"egg", "hand", "hole", "path", "wool", "moths"}) {
            for (String other : others(word)) {
                villageFault(other + " 1;", 1, 0);
            }
        }
        String[] facts = {"heels", "anger", "wear", "ridge", "wool", "hooks", "day", "hand", "least", "most"};
        for (String word : facts) {
            for (String other : others(word)) {
                lawFault(other + "[1,2]", 1, 0);
            }
        }
        for (String word : new String[] {"darn", "let", "call", "unpick", "shear", "day", "again"}) {
            for (String other : others(word)) {
                workFault(other + " 1 1 1;", 1, 0);
            }
        }
    }

    private static List<String> others(String word) {
        List<String> out = new ArrayList<>();
        out.add(word.substring(1));
        out.add(word.substring(0, word.length() - 1));
        out.add(word + "s");
        out.add("a" + word);
        for (int i = 0; i < word.length(); i++) {
            out.add(word.substring(0, i) + 'q' + word.substring(i + 1));
        }
        return out;
    }

    // ---- faults ----------------------------------------------------------------------------

    private static void faults() {
        says("FAULTS, the first from the left, at its first byte:", () -> {
            villageFault("egg 0;hole x", 2, 4);
            villageFault("eggx 0;hole 61;", 1, 0);
            villageFault("   egg   77;;", 2, 9);
            villageFault("hole 1;   eggg 1;", 1, 10);
            villageFault("egg 21 21", 2, 4);
            villageFault("hole 1;hole 1;path 7 0", 2, 19);
            lawFault("1000 1000", 2, 0);
            lawFault("1 1000", 1, 2);
            lawFault("((((((7+1000+(", 2, 8);
            workFault("darn 9 9 9", 2, 5);
            workFault("shear 41", 2, 6);
            workFault("again 31(", 2, 6);
            bookFault(at(SMALL), "0 100", 2, 2);
        });
        says("1 what can't stand there (at the length, if the text ends too early);", () -> {
            villageFault("egg", 1, 3);
            villageFault("egg   ", 1, 6);
            villageFault("egg 1", 1, 5);
            villageFault("egg 1  ", 1, 7);
            villageFault("hole 1;hole 1;path 0", 1, 20);
            villageFault(times(594, " ") + "hole 1", 1, 600);
            villageFault("\u00ff", 1, 0);
            villageFault("1", 1, 0);
            lawFault("  ", 1, 2);
            lawFault("most[1,(2+", 1, 10);
            workFault("again 2[day;  ", 1, 14);
            bookFault(at(SMALL), "0 ", 1, 2);
            bookFault(at(SMALL), "x", 1, 0);
        });
        says("2 a number that is none such (B of a path as A, or one that a PATH is between with A; "
                + "a P twice in a BOOK);", () -> {
            villageFault("hole 1;hole 1; path 1  1 ;", 2, 23);
            villageFault("hole 1;hole 1;hole 1;path 0 2;path 2  0;", 2, 38);
            villageIs("hole 1;hole 1;hole 1;path 0 2;path 2 1;", 3);
            bookFault(at(SMALL), "3 1; 3 1;", 2, 5);
            due("a FAULT of 2", law(new DarnEggs(), "1000"), -8);
        });
        tooMany();
        says("of one the least.", () -> {
            String sixty = times(60, "wool 1;");
            villageFault(sixty + "wools 1;", 1, 420);
            villageFault(sixty + ";", 1, 420);
            villageFault(sixty + "7", 1, 420);
            villageFault(sixty + "wool", 3, 420);
            DarnEggs x = at(times(9, "hole 9;"));
            String eight = "0 1;1 1;2 1;3 1;4 1;5 1;6 1;7 1;";
            bookFault(x, eight + "0 1;", 2, 32);
            bookFault(x, eight + "9 1;", 2, 32);
            bookFault(x, eight + ";", 1, 32);
            bookFault(x, eight + "8", 3, 32);
            lawFault("((((((lest[1,2]", 1, 6);
            lawFault("((((((mosts[1,2]", 1, 6);
            workFault(times(6, "again 1[") + "agains 1[", 1, 48);
        });
    }

    private static void tooMany() {
        says("3 a CLAUSE, EGG, HAND, HOLE or PATH too many (at its word), a line too many (at its P),", () -> {
            villageFault(times(60, "wool 1;") + "   moths 0;", 3, 423);
            villageFault(times(6, "egg 1;") + "  egg 0;", 3, 38);
            villageFault(times(6, "hand 1;") + " hand x", 3, 43);
            villageFault(times(9, "hole 1;") + " hole", 3, 64);
            villageFault(times(6, "hole 1;") + paths(14) + " path 9 9;", 3, 42 + 14 * 9 + 1);
            villageFault(times(6, "egg 1;") + times(54, "wool1;") + "egg 1;", 3, 36 + 54 * 6);
            bookFault(at(times(9, "hole 9;")), "0 1;1 1;2 1;3 1;4 1;5 1;6 1;7 1;  8 100;", 3, 34);
        });
        says("or a 7th of ( least most again that is open at one time;", () -> {
            lawGives("((((((7))))))", 7);
            lawFault("(((((((7)))))))", 3, 6);
            lawGives(times(6, "least[") + "9" + times(6, ",8]"), 8);
            lawFault(times(6, "least[") + " least", 3, 37);
            lawGives(times(6, "most[") + "7" + times(6, ",8]"), 8);
            lawFault(times(6, "most[") + "most[", 3, 30);
            lawFault(times(6, "most[1,") + "least[", 3, 42);
            lawFault("(least[(most[1,(least[2,(3)", 3, 24);
            lawGives("(1)+(1)+(1)+(1)+(1)+(1)+(1)+(1)", 8);
            lawGives(times(6, "(") + "1" + times(6, ")") + "+" + times(6, "(") + "1" + times(6, ")"), 2);
            lawGives("((((most[(1),(2)]))))", 2);
            lawFault("(((((most[(1),(2)])))))", 3, 10);
            workDoes(times(6, "again 1[") + "day;" + times(6, "];"), 1, 0);
            workFault(times(6, "again 1[") + "again 0[", 3, 48);
            workFault(times(6, "again 1[") + "day; again", 3, 53);
            workDoes(times(8, "again 1[day;];"), 8, 0);
            workDoes(times(6, "again 1[") + times(6, "];") + times(6, "again 1[") + "day;" + times(6, "];"), 1, 0);
        });
    }
}
