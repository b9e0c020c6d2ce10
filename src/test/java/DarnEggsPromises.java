/** For each promise of the document what it asks: ordinary inputs, the edges that it names, wrong inputs. */
public final class DarnEggsPromises extends Due {
    public static void main(String[] args) {
        p1(); p2(); p3(); p4(); p5(); p6(); p7(); p8(); p9(); p10();
        p11(); p12(); p13(); p14(); p15(); p16(); p17(); p18(); p19(); p20();
        p21(); p22(); p23(); p24(); p25(); p26(); p27(); p28(); p29(); p30();
        p31(); p32(); p33(); p34(); p35(); p36(); p37(); p38();
        steps();
        days();
        readme();
        end();
    }

    // ---- promises --------------------------------------------------------------------------

    private static void p1() {
        about = "1 a new object";
        DarnEggs x = new DarnEggs();
        for (int what = 0; what < 12; what++) {
            due("told(" + what + ")", x.told(what), what == 5 ? 12 : 0);
        }
        due("count(0)", x.count(0), 0);
        due("count(1)", x.count(1), 0);
        due("count(2)", x.count(2), 0);
        due("fault", x.fault(), -1);
        due("undo", x.undo(), -1);
        due("restore", x.restore(), -1);
        due("NONE", DarnEggs.NONE, -1);
    }

    private static void p2() {
        about = "2 feed";
        DarnEggs x = new DarnEggs();
        for (int i = 1; i <= 30; i++) {
            due("feed " + i, x.feed(0x20202020, 0x20202020, 0x20202020, 0x20202020, 0x20202020), 20 * i);
        }
        due("feed 31", x.feed(0, 0, 0, 0, 0), -1);
        due("bytes", x.count(1), 600);
        due("600 blanks", x.village(600), 0);
        due("bytes then", x.count(1), 0);
        // "hole" " 7; " then bytes above 127, which can't stand there
        due("feed", x.feed(0x686f6c65, 0x20373b20, 0xff80e9fa, -1, Integer.MIN_VALUE), 20);
        due("highest byte first", x.village(8), 1);
        due("wear", x.hole(0, 0), 7);
        x.feed(0x686f6c65, 0x20373b20, 0xff80e9fa, -1, Integer.MIN_VALUE);
        due("a byte above 127", x.village(9), -9);
        due("its place", x.fault(), 8);
    }

    private static void p3() {
        about = "3 village";
        DarnEggs x = at(" egg  2 ;egg020;hand9;hole 60 ; hole 0;path 1 0;wool 3;wool 99;moths 2;moths 99;  ");
        due("eggs", x.told(0), 2);
        due("egg 1", x.egg(1, 0), 20);
        due("hands", x.told(1), 1);
        due("holes", x.told(2), 2);
        due("paths", x.told(3), 1);
        due("the last wool counts", x.told(5), 99);
        due("the last moths count", x.ahead(98, 0) - x.ahead(0, 0), 0);
        due("the last moths count", x.ahead(99, 0) - x.ahead(0, 0), 2);
        feed(x, "egg 1;");
        badArgument("n beyond the tape", () -> x.village(21));
        badArgument("n below 0", () -> x.village(-1));
        due("the tape stays", x.count(1), 20);
        due("village again", x.village(6), 0);
        due("eggs now", x.told(0), 1);
        due("wool now", x.told(5), 12);
        villageForgets();
        villageFaults();
    }

    private static void villageForgets() {
        DarnEggs x = at(SMALL);
        law(x, "7");
        book(x, "0 1;");
        work(x, "darn 0 0 0;darn 0 0 0;");
        x.image();
        due("faulty", village(x, "hole 1;hole"), -9);
        due("law stays", x.mend(0, 0, 0), 7);
        due("book stays", x.told(10), 1);
        due("works stay", x.count(2), 1);
        due("images stay", x.count(0), 1);
        due("refused stay", x.told(11), 1);
        due("wear stays", x.hole(0, 0), 0);
        due("good", village(x, SMALL), 4);
        due("no law", x.mend(0, 0, 0), 3);
        due("no book", x.told(10), 0);
        due("no works", x.count(2), 0);
        due("no images", x.count(0), 0);
        due("none refused", x.told(11), 0);
        due("wear as told", x.hole(0, 0), 5);
        due("nothing darned", x.hand(0, 2), 0);
        due("wool as told", x.told(5), 4);
    }

    private static void villageFaults() {
        villageFault("x", 1, 0);
        villageFault(";", 1, 0);
        villageFault("1", 1, 0);
        villageFault("  eggs 1;", 1, 2);
        villageFault("eg g1;", 1, 0);
        villageFault("eggz 1;", 1, 0);
        villageFault("egga 1;", 1, 0);
        villageFault("egg{1;", 1, 3);
        villageFault("egg`1;", 1, 3);
        villageFault("egg/1;", 1, 3);
        villageFault("egg:1;", 1, 3);
        villageFault("Egg 1;", 1, 0);
        villageFault("egg", 1, 3);
        villageFault("egg  ", 1, 5);
        villageFault("egg;", 1, 3);
        villageFault("egg 1", 1, 5);
        villageFault("egg 1 2;", 1, 6);
        villageFault("egg 1,", 1, 5);
        villageFault("egg -1;", 1, 4);
        villageFault("egg 0;", 2, 4);
        villageFault("egg 21;", 2, 4);
        villageFault("egg 4294967297;", 2, 4);
        villageFault("egg 18446744073709551617x", 2, 4);
        villageFault("hand 10;", 2, 5);
        villageFault("hole 61;", 2, 5);
        villageFault("wool 100;", 2, 5);
        villageFault("moths 0;", 2, 6);
        villageFault("moths 100;", 2, 6);
        villageFault("path 0 1;hole 1;hole 1;", 2, 5);
        villageFault("hole 1;path 0 1;hole 1;", 2, 14);
        villageFault("hole 1;hole 1;path 0 0;", 2, 21);
        villageFault("hole 1;hole 1;path 0 1;path 0 1;", 2, 30);
        villageFault("hole 1;hole 1;path 0 1;path 1 0;", 2, 30);
        villageFault("hole 1;hole 1;path 01;", 1, 21);
        villageFault(times(6, "egg1;") + " egg 99;", 3, 31);
        villageFault(times(6, "hand1;") + "hand;", 3, 36);
        villageFault(times(9, "hole1;") + "hole 1;", 3, 54);
        villageFault(times(60, "wool1;") + "moths 1;", 3, 360);
        villageFault(times(60, "wool1;") + "mothss 1;", 1, 360);
        villageFault(times(60, "wool1;") + ";", 1, 360);
        String six = times(6, "hole1;");
        String paths = "";
        for (int a = 0; a < 6; a++) {
            for (int b = 0; b < a; b++) {
                paths += "path" + a + " " + b + ";";
            }
        }
        villageFault(six + paths, 3, six.length() + 14 * 8);
        DarnEggs x = at(six + paths.substring(0, 14 * 8));
        due("fourteen paths", x.told(3), 14);
        due("sixty clauses", village(x, times(60, "wool1;") + "   "), 0);
    }

    private static void p4() {
        about = "4 law";
        lawGives("1+2*3", 7);
        lawGives("10-3-2", 5);
        lawGives("16/4/2", 2);
        lawGives(" 9 % 4 * 3 ", 3);
        lawGives("(1+2)*3", 9);
        lawGives("heels", 1);
        lawGives("anger", 2);
        lawGives("wear", 3);
        lawGives("ridge", 4);
        lawGives("wool", 5);
        lawGives("hooks", 6);
        lawGives("day", 7);
        lawGives("hand", 5);
        lawGives("least[9,4]", 4);
        lawGives("most [ 9 , 4 ]", 9);
        lawGives("most[least[9,4],3]+1", 5);
        lawGives("0-5", 0);
        lawGives("999", 20);
        lawGives("007", 7);
        lawGives("5/0", 0);
        lawGives("5%0+3", 3);
        lawGives("10+(0-7)/2", 7);
        lawGives("10+(0-7)%2", 9);
        lawGives("10+7%(0-4)", 13);
        // 512*512*512*16 wraps to the least number of 32 bits, and this less 1 to the greatest one
        lawGives("(512*512*512*16-1)/999/999/100", 20);
        lawGives("512*512*512*16", 0);
        lawGives("512*512*512*16/(0-1)/999/999/100+21", 0);
        lawGives("512*512*512*16%(0-1)+4", 4);
        lawGives("((((((1))))))+((((((2))))))", 3);
        lawGives("least[most[(least[most[(1),2],3]),4],5]", 4);
        DarnEggs x = at(SMALL);
        due("law of 150 bytes", law(x, times(149, " ") + "9"), 1);
        due("mend by it", x.mend(0, 0, 0), 9);
        feed(x, times(151, "1"));
        badArgument("151 bytes", () -> x.law(151));
        due("the tape stays", x.count(1), 160);
        badArgument("below 0", () -> x.law(-1));
        due("150 digits", x.law(150), -8);
        due("the tape is empty", x.count(1), 0);
        due("the law stays", x.mend(0, 0, 0), 9);
        lawFaults();
    }

    private static void lawFaults() {
        lawFault("", 1, 0);
        lawFault("  ", 1, 2);
        lawFault("1 2", 1, 2);
        lawFault("1)", 1, 1);
        lawFault("(1", 1, 2);
        lawFault("1+", 1, 2);
        lawFault("+1", 1, 0);
        lawFault("-1", 1, 0);
        lawFault("1**2", 1, 2);
        lawFault("1;", 1, 1);
        lawFault("heel", 1, 0);
        lawFault("1+hands", 1, 2);
        lawFault("least", 1, 5);
        lawFault("least(1,2)", 1, 5);
        lawFault("least[1]", 1, 7);
        lawFault("least[1,2)", 1, 9);
        lawFault("most[1,2,3]", 1, 8);
        lawFault("1000", 2, 0);
        lawFault("1+ 1000)", 2, 3);
        lawFault("(((((((1", 3, 6);
        lawFault("(((((( (1", 3, 7);
        lawFault("((((((least", 3, 6);
        lawFault("((((((mosts", 1, 6);
        lawFault("least[most[least[most[least[most[1,most[", 3, 35);
        lawFault("((((((1(", 1, 7);
    }

    private static void p5() {
        about = "5 work";
        DarnEggs x = at(SMALL);
        due("work", work(x, " day ;again 2[ shear 1;again 3[];];darn 2 1 1;unpick 0; "), 4);
        due("refused", x.told(11), 1);
        due("day", x.told(4), 1);
        due("again 0", work(x, "again 0[day;];day;"), 1);
        due("none", work(x, "   "), 0);
        due("works", x.count(2), 3);
        feed(x, times(8, "                    "));
        badArgument("151 bytes", () -> x.work(151));
        badArgument("below 0", () -> x.work(-1));
        badArgument("beyond the tape", () -> x.work(161));
        due("the tape stays", x.count(1), 160);
        due("150 bytes", x.work(150), 0);
        mostSteps();
        sixteenWorks();
        workFault("days;", 1, 0);
        workFault("day", 1, 3);
        workFault("day;]", 1, 4);
        workFault("again 1[day;", 1, 12);
        workFault("again 1[day]", 1, 11);
        workFault("again 1[]", 1, 9);
        workFault("again 1 day;", 1, 8);
        workFault("again [];", 1, 6);
        workFault("again 31[];", 2, 6);
        workFault("day;darn 3 0 0;", 2, 9);
        workFault("darn 0 2 0;", 2, 7);
        workFault("darn 0 0 4;", 2, 9);
        workFault("darn 0 0;", 1, 8);
        workFault("let 2 0;", 2, 4);
        workFault("let 0 4;", 2, 6);
        workFault("call 2;", 2, 5);
        workFault("unpick 4;", 2, 7);
        workFault("shear 0;", 2, 6);
        workFault("shear 41;", 2, 6);
        workFault(times(6, "again1[") + " again 1[", 3, 43);
        workFault(times(6, "again1[") + "day;day", 1, 49);
        due("six agains", work(at(SMALL), times(6, "again1[") + "day;" + times(6, "];") + "again 1[];"), 1);
    }

    private static void mostSteps() {
        DarnEggs x = at("egg 1;hole 1;");
        due("200 begun", work(x, "again 30[again 30[day;];];"), 192);
        due("days", x.told(4), 192);
        DarnEggs y = at("egg 1;hole 1;");
        due("agains that do nothing are begun", work(y, "again 30[again 30[again 0[day;];];];day;"), 0);
        DarnEggs z = at("egg 1;hole 1;");
        due("refused ones are begun", work(z, "again 9[again 29[call 0;];];day;"), 0);
        // 1 + 9 * 30 are begun, but 200 at most: 1, then six turns of 30, then an again and 18 calls
        due("refused", z.told(11), 6 * 29 + 18);
        DarnEggs w = at("egg 1;hole 1;");
        due("199 and one", work(w, "again 6[again 30[day;];];again 11[day;];shear 1;shear 1;"), 192);
        due("wool", w.told(5), 13);
    }

    private static void sixteenWorks() {
        DarnEggs x = at("hole 1;");
        for (int i = 1; i <= 16; i++) {
            due("work " + i, work(x, "day;"), 1);
        }
        due("faulty", law(x, "x"), -9);
        due("fault", x.fault(), 0);
        due("a 17th", work(x, "x"), -20);
        due("no fault", x.fault(), -1);
        due("tape", x.count(1), 0);
        due("day", x.told(4), 16);
        badArgument("n first", () -> x.work(1));
        due("undo", x.undo(), 15);
        due("then one", work(x, "day;day;"), 2);
        due("and no more", work(x, ""), -20);
    }

    private static void p6() {
        about = "6 book";
        DarnEggs x = at(times(9, "hole 9;") + "egg 1;hand 0;");
        due("book", book(x, " 0 9;8  0 ; 3 99;"), 3);
        due("lines", x.told(10), 3);
        due("no lines", book(x, " "), 0);
        due("lines", x.told(10), 0);
        due("eight", book(x, "0 1;1 1;2 1;3 1;4 1;5 1;6 1;7 1;"), 8);
        bookFault(x, "0 1;1 1;2 1;3 1;4 1;5 1;6 1;7 1; 8 1;", 3, 33);
        bookFault(x, "0 1;1 1;2 1;3 1;4 1;5 1;6 1;7 1;7 1;", 2, 32);
        bookFault(x, "0 1;1 1;2 1;3 1;4 1;5 1;6 1;7 1;9 1;", 2, 32);
        bookFault(x, "0 1;1 1;2 1;3 1;4 1;5 1;6 1;7 1;x", 1, 32);
        bookFault(x, "9 1;", 2, 0);
        bookFault(x, "0 100;", 2, 2);
        bookFault(x, "0 1;1 2; 0 1;", 2, 9);
        bookFault(x, "0;", 1, 1);
        bookFault(x, "0 1", 1, 3);
        bookFault(x, "day;", 1, 0);
        due("the book stays", x.told(10), 8);
        feed(x, times(80, " "));
        badArgument("61 bytes", () -> x.book(61));
        badArgument("below 0", () -> x.book(-1));
        due("the tape stays", x.count(1), 80);
        due("60 bytes", x.book(60), 0);
        due("without holes", book(new DarnEggs(), "0 0;"), -8);
    }

    private static void p7() {
        about = "7 fault";
        DarnEggs x = new DarnEggs();
        due("none at first", x.fault(), -1);
        due("law", law(x, "1+x"), -9);
        due("its place", x.fault(), 2);
        badArgument("a refused call", () -> x.law(1));
        due("the latest text stays", x.fault(), 2);
        x.undo();
        x.image();
        x.restore();
        due("and stays", x.fault(), 2);
        due("law", law(x, "1"), 1);
        due("none", x.fault(), -1);
    }

    private static void p8() {
        about = "8 undo";
        DarnEggs x = at("egg 1;hand 5;hole 2;hole 3;path 0 1;");
        due("work", work(x, "darn 0 0 0;darn 0 0 1;"), 1);
        due("work", work(x, "let 0 1;day;shear 5;unpick 0;"), 3);
        due("law", law(x, "1"), 1);
        due("book", book(x, "0 0;"), 1);
        due("refused", x.told(11), 1);
        due("undo", x.undo(), 1);
        due("refused then", x.told(11), 0);
        due("out", x.told(7), 0);
        due("day", x.told(4), 0);
        due("darned this day", x.told(8), 1);
        due("wool", x.told(5), 11);
        due("wear", x.hole(1, 0), 3);
        due("the law stays", x.would(0, 0, 0, 0, 0, 0, 0, 0), 1);
        due("the book stays", x.told(10), 1);
        due("undo", x.undo(), 0);
        due("wear", x.hole(0, 0), 2);
        due("heels", x.egg(0, 1), 0);
        due("hooks", x.egg(0, 2), 0);
        due("hand", x.hand(0, 2), 0);
        due("darned this day", x.told(8), 0);
        due("wool", x.told(5), 12);
        due("undo", x.undo(), -1);
    }

    private static void p9() {
        about = "9 told";
        DarnEggs x = at(SMALL);
        work(x, "darn 0 0 0;darn 1 0 1;darn 2 0 1;let 0 3;");
        int[] want = {2, 3, 4, 3, 0, 2, 1, 1, 3, 11, 0, 1};
        for (int what = 0; what < 12; what++) {
            due("told(" + what + ")", x.told(what), want[what]);
        }
        badArgument("told(-1)", () -> x.told(-1));
        badArgument("told(12)", () -> x.told(12));
        due("a faulty work", work(x, "call 0;call 9;"), -8);
        due("refused by the latest work that was done", x.told(11), 1);
        due("work", work(x, "day;"), 1);
        due("refused", x.told(11), 0);
        due("darned this day", x.told(8), 0);
    }

    private static void p10() {
        about = "10 egg";
        DarnEggs x = at(SMALL);
        work(x, "darn 1 0 0;day;darn 1 0 0;let 0 2;");
        int[] want = {2, 2, 2, 2, 1, 0};
        for (int what = 0; what < 6; what++) {
            due("egg(0, " + what + ")", x.egg(0, what), want[what]);
        }
        due("egg(1, 3)", x.egg(1, 3), -1);
        due("egg(1, 4)", x.egg(1, 4), 0);
        due("egg(1, 5)", x.egg(1, 5), 3);
        badArgument("egg(0, 6)", () -> x.egg(0, 6));
        badArgument("egg(0, -1)", () -> x.egg(0, -1));
        noElement("egg(2, 6)", () -> x.egg(2, 6));
        noElement("egg(-1, 0)", () -> x.egg(-1, 0));
        DarnEggs y = at("egg 2;hand 5;hand 4;hole 9;");
        work(y, "darn 0 0 0;darn 1 0 0;");
        due("half is not HOOKED", y.egg(0, 4), 0);
        due("anger 5 hooks, 4 does not", y.egg(0, 2), 1);
    }

    private static void p11() {
        about = "11 hand";
        DarnEggs x = at(SMALL);
        work(x, "darn 1 0 0;day;darn 1 0 0;darn 2 1 0;day;darn 1 1 1;");
        due("anger", x.hand(1, 0), 6);
        due("this day", x.hand(1, 1), 1);
        due("not this day", x.hand(2, 1), 0);
        due("how often", x.hand(1, 2), 3);
        due("how often", x.hand(2, 2), 1);
        badArgument("hand(0, 3)", () -> x.hand(0, 3));
        badArgument("hand(0, -1)", () -> x.hand(0, -1));
        noElement("hand(3, 3)", () -> x.hand(3, 3));
        noElement("hand(-1, 0)", () -> x.hand(-1, 0));
    }

    private static void p12() {
        about = "12 hole";
        DarnEggs x = at(SMALL);
        work(x, "darn 0 0 3;darn 2 0 1;let 0 1;");
        due("wear", x.hole(3, 0), 0);
        due("ridge", x.hole(3, 1), 1);
        due("as told", x.hole(3, 2), 2);
        due("paths", x.hole(2, 3), 10);
        due("out there", x.hole(1, 4), 1);
        due("not there", x.hole(3, 4), 0);
        badArgument("hole(0, 5)", () -> x.hole(0, 5));
        badArgument("hole(0, -1)", () -> x.hole(0, -1));
        noElement("hole(4, 5)", () -> x.hole(4, 5));
        noElement("hole(-1, 0)", () -> x.hole(-1, 0));
    }

    private static void p13() {
        about = "13 path";
        DarnEggs x = at("hole 1;hole 1;hole 1;path 2 0;path 0 1;");
        due("A", x.path(0, 0), 2);
        due("B", x.path(0, 1), 0);
        due("A", x.path(1, 0), 0);
        due("B", x.path(1, 1), 1);
        badArgument("path(0, 2)", () -> x.path(0, 2));
        badArgument("path(0, -1)", () -> x.path(0, -1));
        noElement("path(2, 2)", () -> x.path(2, 2));
        noElement("path(-1, 0)", () -> x.path(-1, 0));
    }

    private static void p14() {
        about = "14 mend";
        DarnEggs x = at(SMALL);
        due("without a law", x.mend(0, 0, 0), 3);
        due("anger 6", x.mend(1, 0, 0), 1);
        work(x, "darn 0 0 0;darn 1 0 0;day;day;");
        due("two heels", x.mend(0, 0, 0), 4);
        law(x, "hand*8 + heels*4 + hooks*2 + wool%2");
        due("hand 1, egg 0", x.mend(1, 0, 0), 18);
        due("hand 0, egg 1", x.mend(0, 1, 0), 0);
        law(x, "wear + ridge + day");
        due("hole 1", x.mend(0, 0, 1), 10);
        law(x, "99");
        due("20 at most", x.mend(0, 0, 0), 20);
        law(x, "0-1");
        due("0 at least", x.mend(0, 0, 0), 0);
        noElement("hand", () -> x.mend(3, 0, 0));
        noElement("egg", () -> x.mend(0, 2, 0));
        noElement("hole", () -> x.mend(0, 0, 4));
        noElement("below 0", () -> x.mend(-1, 0, 0));
        noElement("below 0", () -> x.mend(0, -1, 0));
        noElement("below 0", () -> x.mend(0, 0, -1));
    }

    private static void p15() {
        about = "15 would";
        DarnEggs x = new DarnEggs();
        due("without a law", x.would(7, 8, 0, 0, 0, 0, 0, 0), 4);
        due("without a law", x.would(0, 9, 0, 0, 0, 0, 0, 0), 0);
        int[] most = {20, 9, 99, 99, 99, 20, 600, 5};
        String[] words = {"heels", "anger", "wear", "ridge", "wool", "hooks", "day", "hand"};
        for (int i = 0; i < 8; i++) {
            int[] a = new int[8];
            law(x, words[i] + "%100/" + (most[i] > 20 ? "9" : "1"));
            a[i] = most[i];
            int w = most[i] % 100 / (most[i] > 20 ? 9 : 1);
            due(words[i], x.would(a[0], a[1], a[2], a[3], a[4], a[5], a[6], a[7]), w);
            a[i] = most[i] + 1;
            badArgument(words[i], () -> x.would(a[0], a[1], a[2], a[3], a[4], a[5], a[6], a[7]));
            a[i] = -1;
            badArgument(words[i], () -> x.would(a[0], a[1], a[2], a[3], a[4], a[5], a[6], a[7]));
        }
    }

    private static void p16() {
        about = "16 can";
        DarnEggs x = at("egg 1;egg 9;hand 0;hand 0;hole 5;hole 0;wool 2;");
        due("can", x.can(0, 0, 0) ? 1 : 0, 1);
        due("wear is 0", x.can(0, 0, 1) ? 1 : 0, 0);
        work(x, "darn 0 0 0;");
        due("darned this day", x.can(0, 1, 0) ? 1 : 0, 0);
        due("another hand", x.can(1, 1, 0) ? 1 : 0, 1);
        due("hatched", x.can(1, 0, 0) ? 1 : 0, 0);
        work(x, "darn 1 1 0;day;");
        due("no wool", x.can(1, 1, 0) ? 1 : 0, 0);
        noElement("hand", () -> x.can(2, 0, 0) ? 1 : 0);
        noElement("egg", () -> x.can(0, 2, 0) ? 1 : 0);
        noElement("hole", () -> x.can(0, 0, 2) ? 1 : 0);
        noElement("below 0", () -> x.can(-1, 0, 0) ? 1 : 0);
    }

    private static void p17() {
        about = "17 ahead";
        DarnEggs x = at("egg 1;hand 0;hole 4;hole 2;moths 2;");
        work(x, "darn 0 0 1;let 0 0;");
        due("now", x.ahead(0, 0), 4);
        due("now", x.ahead(0, 2), 2);
        due("in 1", x.ahead(1, 0), 3);
        due("in 2", x.ahead(2, 0), 4);
        due("ridges", x.ahead(0, 1), 1);
        due("nothing stays", x.told(4), 0);
        due("darned this day stays", x.told(8), 1);
        // Hole 0: 4 3 3 2 2 1 1, then 0 on the 7th day; there is no path, so the ridge grows by each second day.
        due("in 7", x.ahead(7, 2), 1);
        due("in 99", x.ahead(99, 0), 49);
        badArgument("ahead(100, 0)", () -> x.ahead(100, 0));
        badArgument("ahead(-1, 0)", () -> x.ahead(-1, 0));
        badArgument("ahead(0, 3)", () -> x.ahead(0, 3));
        badArgument("ahead(0, -1)", () -> x.ahead(0, -1));
    }

    private static void p18() {
        about = "18 whole";
        DarnEggs x = at("egg 1;hand 0;hole 60;hole 0;hole 3;");
        work(x, "darn 0 0 2;");
        due("now", x.whole(1), 0);
        due("never", x.whole(0), -1);
        work(x, "let 0 0;");
        due("60 days", x.whole(0), 60);
        noElement("whole(3)", () -> x.whole(3));
        noElement("whole(-1)", () -> x.whole(-1));
        DarnEggs y = at("egg 1;hand 0;hole 50;hole 9;moths 4;");
        work(y, "darn 0 0 0;let 0 0;");
        // 47 is three less by each four days: 2 on DAY 60, 0 on DAY 62
        due("moths", y.whole(0), 62);
        due("other", y.whole(1), -1);
        DarnEggs z = at("egg 1;egg 1;egg 1;hand 0;hand 0;hand 0;hole 60;moths 1;");
        law(z, "0");
        work(z, "darn 0 0 0;let 0 0;");
        due("as many by moths", z.whole(0), -1);
        work(z, "darn 1 1 0;let 1 0;");
        // Two of them less one each day, but on the day that takes the last one the moths come behind
        due("moths come behind", z.whole(0), -1);
        wholeEdge();
    }

    private static void wholeEdge() {
        // One comes to hole 3 on DAY 180, so it is whole on DAY 200
        DarnEggs x = at("egg 1;hand 0;hole 60;hole 60;hole 60;hole 20;hole 0;path 0 1;path 1 2;path 2 3;path 3 4;");
        law(x, "0");
        work(x, "darn 0 0 0;let 0 0;");
        due("60", x.whole(0), 60);
        due("120", x.whole(1), 120);
        due("180", x.whole(2), 180);
        due("200", x.whole(3), 200);
        DarnEggs y = at("egg 1;hand 0;hole 60;hole 60;hole 60;hole 21;path 0 1;path 1 2;path 2 3;");
        law(y, "0");
        work(y, "darn 0 0 0;let 0 0;");
        due("201 is too late", y.whole(3), -1);
        work(y, "day;");
        due("but 200 is not", y.whole(3), 200);
    }

    private static void p19() {
        about = "19 best";
        DarnEggs x = at(SMALL);
        due("best", x.best(0), 6);
        work(x, "darn 0 0 2;darn 0 0 1;");
        // Hand 0 darned; hand 1 mends 1, hand 2 mends 2
        due("without hand 0", x.best(0), 3);
        law(x, "wear");
        due("all wear of the two greatest", x.best(0), 10);
        law(x, "0");
        due("nothing", x.best(1), 0);
        noElement("best(2)", () -> x.best(2));
        noElement("best(-1)", () -> x.best(-1));
        DarnEggs y = at(times(6, "hand 0;") + times(9, "hole 60;") + "egg 1;wool 0;");
        law(y, "hand + 1");
        due("six hands, no wool", y.best(0), 21);
        due("no hands", at("egg 1;hole 5;").best(0), 0);
        due("no holes", at("egg 1;hand 5;").best(0), 0);
    }

    private static void p20() {
        about = "20 given";
        DarnEggs x = at("egg 1;hand 0;hand 0;hand 0;hole 3;hole 1;hole 3;");
        due("hand 0", x.given(0, 0), 0);
        due("hand 1", x.given(0, 1), 1);
        due("hand 2", x.given(0, 2), 2);
        DarnEggs y = at("egg 1;hand 9;hand 0;hole 9;hole 2;");
        // Hand 0 mends 0: it may take either, but hand 1 takes 3 off hole 0 and 2 off hole 1
        due("hand 0", y.given(0, 0), 1);
        due("hand 1", y.given(0, 1), 0);
        work(y, "darn 1 0 0;");
        due("darned this day", y.given(0, 1), -1);
        due("alone, the least hole", y.given(0, 0), 0);
        DarnEggs z = at("egg 1;hand 9;hand 0;hand 0;hole 9;hole 2;");
        due("none, as both are worth more", z.given(0, 0), -1);
        due("then", z.given(0, 1), 0);
        due("then", z.given(0, 2), 1);
        due("no holes", at("egg 1;hand 5;").given(0, 0), -1);
        noElement("egg", () -> z.given(1, 0));
        noElement("hand", () -> z.given(0, 3));
        noElement("below 0", () -> z.given(0, -1));
    }

    private static void p21() {
        about = "21 round";
        DarnEggs x = at("hole 1;hole 0;hole 1;hole 1;hole 0;path 0 1;path 1 2;path 1 3;");
        due("from 0", x.round(0), 4);
        due("from 1", x.round(1), 5);
        due("alone", x.round(4), -1);
        DarnEggs y = at("hole 0;hole 5;hole 0;");
        due("itself", y.round(1), 0);
        due("no way", y.round(0), -1);
        due("nothing to come to", at("hole 0;hole 0;").round(1), 0);
        DarnEggs z = at("hole 1;hole 1;hole 1;hole 1;hole 1;hole 1;hole 1;hole 1;hole 1;"
                + "path 0 1;path 0 2;path 0 3;path 0 4;path 0 5;path 0 6;path 0 7;path 0 8;");
        due("a star", z.round(0), 15);
        due("a star from a beam", z.round(4), 14);
        noElement("round(9)", () -> z.round(9));
        noElement("round(-1)", () -> z.round(-1));
    }

    private static void p22() {
        about = "22 guards";
        due("none", new DarnEggs().guards(), 0);
        due("none worn", at("hole 0;hole 0;").guards(), 0);
        due("star", at("hole 1;hole 0;hole 1;hole 1;path 0 1;path 1 2;path 1 3;").guards(), 2);
        due("least bits", at("hole 1;hole 1;path 0 1;").guards(), 1);
        due("each by itself", at("hole 1;hole 0;hole 1;").guards(), 5);
        due("few ahead of least bits", at("hole 1;hole 1;hole 1;hole 0;path 3 0;path 3 1;path 3 2;").guards(), 8);
    }

    private static void p23() {
        about = "23 way";
        DarnEggs x = at("hole 0;hole 0;hole 0;hole 0;hole 0;path 0 1;path 1 2;path 2 3;path 3 0;");
        due("one hole", x.way(2, 2), 0);
        due("two", x.way(0, 2), 2);
        due("one", x.way(0, 3), 1);
        due("none", x.way(0, 4), -1);
        due("itself alone", x.way(4, 4), 0);
        noElement("way(5, 0)", () -> x.way(5, 0));
        noElement("way(0, 5)", () -> x.way(0, 5));
        noElement("way(-1, 0)", () -> x.way(-1, 0));
    }

    private static void p24() {
        about = "24 fits";
        DarnEggs x = at("egg 1;egg 2;hand 0;hand 3;hand 6;hole 9;hole 2;hole 0;");
        due("all", x.fits(0), 6);
        due("first", x.fits(1), 0);
        book(x, "0 7;");
        due("hand 1", x.fits(0), 2);
        due("first", x.fits(1), 10);
        book(x, "0 8;1 1;2 0;");
        due("hand 2", x.fits(0), 2);
        due("first", x.fits(1), 20);
        book(x, "1 0;");
        due("0 at least", x.fits(0), 4);
        book(x, "0 7;1 1;");
        due("none", x.fits(0), 0);
        due("none", x.fits(1), -1);
        law(x, "heels+1");
        work(x, "darn 0 1 0;");
        book(x, "0 6;");
        due("heels tell the egg", x.fits(0), 3);
        due("first", x.fits(1), 1);
        badArgument("fits(2)", () -> x.fits(2));
        badArgument("fits(-1)", () -> x.fits(-1));
    }

    private static void p25() {
        about = "25 look";
        DarnEggs x = at("egg 1;egg 2;hand 0;hand 3;hand 6;hole 2;hole 9;hole 9;");
        // Mends 3, 2, 1: hole 0 leaves 0 by four pairs; hole 1 leaves 6, 7, 8 by two each
        due("the hole", x.look(0), 1);
        due("left at the worst", x.look(1), 2);
        book(x, "1 7;2 7;");
        due("the one in no line", x.look(0), 0);
        due("left", x.look(1), 2);
        book(x, "1 0;");
        due("no pairs: the first", x.look(0), 0);
        due("none left", x.look(1), 0);
        book(x, "0 1;1 1;2 1;");
        due("all in lines", x.look(0), -1);
        due("all in lines", x.look(1), -1);
        due("no holes", at("egg 1;hand 1;").look(0), -1);
        due("no holes", at("egg 1;hand 1;").look(1), -1);
        badArgument("look(2)", () -> x.look(2));
        badArgument("look(-1)", () -> x.look(-1));
    }

    private static void p26() {
        about = "26 first";
        DarnEggs x = new DarnEggs();
        due("q 0", x.first(5, 0, 0), 0);
        due("q 0", x.first(5, 0, 1), 1);
        due("q 16", x.first(1, 16, 0), 1);
        due("q 16", x.first(1, 16, 1), 1);
        due("q 16", x.first(2, 16, 0), 0);
        due("q 16", x.first(2, 16, 1), 1);
        due("above", x.first(12, 15, 0), 15);
        due("below", x.first(12, 15, 1), 281474976710656L);
        due("above", x.first(12, 1, 0), 8649755859375L);
        due("below", x.first(12, 1, 1), 281474976710656L);
        due("least terms", x.first(12, 8, 0), 1);
        due("least terms", x.first(12, 8, 1), 4096);
        badArgument("n 0", () -> x.first(0, 1, 0));
        badArgument("n 13", () -> x.first(13, 1, 0));
        badArgument("q -1", () -> x.first(1, -1, 0));
        badArgument("q 17", () -> x.first(1, 17, 0));
        badArgument("part 2", () -> x.first(1, 1, 2));
        badArgument("part -1", () -> x.first(1, 1, -1));
    }

    private static void p27() {
        about = "27 ridge";
        DarnEggs x = new DarnEggs();
        due("v above w", x.ridge(9, 5, 0), 1);
        due("both leave", x.ridge(9, 5, 1), 11);
        due("both", x.ridge(9, 5, 2), 18);
        due("v below w", x.ridge(5, 9, 0), 2);
        due("one unpicks", x.ridge(5, 9, 1), 1);
        due("w and half of v", x.ridge(5, 9, 2), 11);
        due("alike", x.ridge(7, 7, 0), 3);
        due("alike", x.ridge(7, 7, 1), 1);
        due("alike", x.ridge(7, 7, 2), 10);
        due("nothing", x.ridge(0, 0, 0), 4);
        due("nothing", x.ridge(0, 0, 1), 0);
        due("nothing", x.ridge(0, 0, 2), 0);
        due("1 by 2 is 0", x.ridge(1, 0, 0), 2);
        due("1 by 2 is 0", x.ridge(1, 0, 1), 0);
        badArgument("v 100", () -> x.ridge(100, 0, 0));
        badArgument("v -1", () -> x.ridge(-1, 0, 0));
        badArgument("w 100", () -> x.ridge(0, 100, 0));
        badArgument("w -1", () -> x.ridge(0, -1, 0));
        badArgument("what 3", () -> x.ridge(0, 0, 3));
        badArgument("what -1", () -> x.ridge(0, 0, -1));
    }

    private static void p28() {
        about = "28 wool";
        DarnEggs x = at("hole 5;hole 8;hole 0;hole 2;");
        due("levelled", x.wool(1, 15, 9), 3);
        due("levelled", x.wool(3, 15, 9), 2);
        due("all", x.wool(1, 15, 15), 8);
        due("more than all", x.wool(1, 15, 999), 8);
        due("one less than all", x.wool(1, 15, 14), 7);
        due("none of them", x.wool(0, 14, 99), 0);
        due("nothing to give", x.wool(1, 15, 0), 0);
        due("two for three", x.wool(1, 15, 2), 0);
        due("alone", x.wool(1, 2, 7), 7);
        due("no holes told", x.wool(1, 0, 7), 0);
        badArgument("bits of no holes", () -> x.wool(0, 16, 1));
        badArgument("bits of no holes", () -> x.wool(0, -1, 1));
        badArgument("n -1", () -> x.wool(0, 1, -1));
        badArgument("n 1000", () -> x.wool(0, 1, 1000));
        noElement("hole ahead of others", () -> x.wool(4, 16, 1000));
        noElement("hole -1", () -> x.wool(-1, 1, 1));
    }

    private static void p29() {
        about = "29 worst";
        DarnEggs x = at("hole 3;hole 7;hole 7;");
        due("hole", x.worst(0), 1);
        due("wear", x.worst(1), 7);
        DarnEggs y = at("hole 0;hole 0;");
        due("none", y.worst(0), -1);
        due("none", y.worst(1), -1);
        badArgument("worst(2)", () -> x.worst(2));
        badArgument("worst(-1)", () -> x.worst(-1));
    }

    private static void p30() {
        about = "30 goes";
        DarnEggs x = at("egg 1;egg 1;hand 0;hand 0;hole 4;hole 6;hole 6;hole 0;path 0 1;path 0 2;path 0 3;");
        law(x, "3");
        work(x, "darn 0 0 0;darn 1 1 3;");
        due("not out", x.goes(0), -1);
        work(x, "let 0 0;");
        due("along a path to the greatest, the least", x.goes(0), 1);
        work(x, "let 0 1;");
        due("stays", x.goes(0), 1);
        due("nothing stays changed", x.egg(0, 3), 1);
        noElement("goes(2)", () -> x.goes(2));
        noElement("goes(-1)", () -> x.goes(-1));
        DarnEggs y = at("egg 1;egg 1;hand 0;hand 0;hole 7;hole 4;hole 3;path 0 1;path 0 2;");
        law(y, "3");
        work(y, "darn 0 0 0;darn 1 1 0;let 0 1;let 1 0;");
        // Egg 0 takes one off hole 1 ahead of egg 1: both are of wear 3 then, and the least is taken
        due("those ahead count", y.goes(1), 1);
    }

    private static void p31() {
        about = "31 parts";
        due("none", new DarnEggs().parts(), 0);
        due("single ones", at("hole 1;hole 1;hole 1;").parts(), 3);
        due("two", at("hole 1;hole 1;hole 1;hole 0;path 3 0;path 0 2;").parts(), 2);
        due("a chain", at(times(9, "hole 1;") + "path 8 7;path 7 6;path 6 5;path 5 4;path 4 3;path 3 2;path 2 1;path 1 0;")
                .parts(), 1);
    }

    private static void p32() {
        about = "32 ridges";
        DarnEggs x = at("egg 9;hand 0;hand 0;hand 0;hole 1;hole 2;hole 2;");
        due("none", x.ridges(0), 0);
        due("none", x.ridges(1), -1);
        law(x, "4");
        work(x, "darn 0 0 1;darn 1 0 2;");
        due("together", x.ridges(0), 4);
        due("the first", x.ridges(1), 1);
        work(x, "darn 2 0 0;");
        due("together", x.ridges(0), 7);
        due("the greatest", x.ridges(1), 0);
        badArgument("ridges(2)", () -> x.ridges(2));
        badArgument("ridges(-1)", () -> x.ridges(-1));
    }

    private static void p33() {
        about = "33 generation";
        DarnEggs x = at("egg 1;hand 0;hole 9;hole 9;wool 3;");
        // Seed 1 becomes 1103527590 (16838 of it), 2524885223, 662824084, 3295386010: hole is 10113 by 2, then 2
        due("wear", x.generation(1, 0, 1, 0), 15);
        due("ridges", x.generation(1, 0, 1, 1), 0);
        due("hatched", x.generation(1, 0, 1, 2), 1);
        due("wool", x.generation(1, 0, 1, 3), 2);
        due("nothing stays", x.told(9), 18);
        due("nothing stays", x.told(5), 3);
        // Let out on the first day: it takes one off hole 1, each day
        long bits = 3295386010L / 65536 % 32768 % 16;
        due("let out, if below Q", x.generation(1, (int) bits + 1, 1, 0), 14);
        due("not let out", x.generation(1, (int) bits, 1, 0), 15);
        DarnEggs y = at("hole 9;hand 1;moths 2;");
        due("no eggs: days go by", y.generation(5, 16, 96, 0), 57);
        work(y, times(37, "day;"));
        due("from now on", y.generation(5, 16, 96, 0), 9 + (37 + 96) / 2);
        generationRefuses(x);
    }

    private static void generationRefuses(DarnEggs x) {
        badArgument("q 17", () -> x.generation(1, 17, 1, 0));
        badArgument("q -1", () -> x.generation(1, -1, 1, 0));
        badArgument("days 0", () -> x.generation(1, 0, 0, 0));
        badArgument("days 97", () -> x.generation(1, 0, 97, 0));
        badArgument("what 4", () -> x.generation(1, 0, 1, 4));
        badArgument("what -1", () -> x.generation(1, 0, 1, -1));
        due("any seed", x.generation(Integer.MIN_VALUE, 16, 96, 3), 2);
    }

    private static void p34() {
        about = "34 span";
        DarnEggs x = at("egg 2;egg 1;hand 0;hand 8;hole 9;hole 9;hole 4;path 0 1;moths 5;");
        int least = 1000;
        int most = 0;
        int hatched = 0;
        for (int i = 0; i < 20; i++) {
            int seed = Integer.MAX_VALUE - 7 + i;
            least = Math.min(least, x.generation(seed, 9, 4, 0));
            most = Math.max(most, x.generation(seed, 9, 4, 0));
            hatched += x.generation(seed, 9, 4, 2) == 3 ? 1 : 0;
        }
        due("least", x.span(Integer.MAX_VALUE - 7, 20, 9, 4, 0), least);
        due("most", x.span(Integer.MAX_VALUE - 7, 20, 9, 4, 1), most);
        due("hatched", x.span(Integer.MAX_VALUE - 7, 20, 9, 4, 2), hatched);
        due("some, not all", hatched > 0 && hatched < 20 && least < most ? 1 : 0, 1);
        due("one", x.span(3, 1, 9, 4, 0), x.generation(3, 9, 4, 0));
        due("without eggs all are hatched", at("hole 1;").span(0, 7, 0, 1, 2), 7);
        badArgument("many 0", () -> x.span(1, 0, 0, 1, 0));
        badArgument("many 21", () -> x.span(1, 21, 0, 1, 0));
        badArgument("q 17", () -> x.span(1, 1, 17, 1, 0));
        badArgument("q -1", () -> x.span(1, 1, -1, 1, 0));
        badArgument("days 0", () -> x.span(1, 1, 0, 0, 0));
        badArgument("days 97", () -> x.span(1, 1, 0, 97, 0));
        badArgument("what 3", () -> x.span(1, 1, 0, 1, 3));
        badArgument("what -1", () -> x.span(1, 1, 0, 1, -1));
    }

    private static void p35() {
        about = "35 image";
        DarnEggs x = at("hole 1;");
        due("first", x.image(), 1);
        due("second", x.image(), 2);
        due("third", x.image(), 3);
        due("no fourth", x.image(), -1);
        due("three", x.count(0), 3);
        x.restore();
        due("third again", x.image(), 3);
    }

    private static void p36() {
        about = "36 restore";
        DarnEggs x = at("egg 1;hand 5;hole 9;hole 3;path 0 1;wool 5;");
        work(x, "shear 1;");
        work(x, "shear 2;");
        x.image();
        x.undo();
        x.undo();
        work(x, "darn 0 0 0;let 0 1;day;call 0;call 0;");
        law(x, "5");
        book(x, "0 1;");
        due("refused", x.told(11), 1);
        x.image();
        work(x, "day;day;darn 0 0 0;");
        badArgument("what", () -> x.told(99));
        due("restore", x.restore(), 1);
        due("refused then", x.told(11), 0);
        due("day", x.told(4), 1);
        due("wool", x.told(5), 4);
        due("works", x.count(2), 1);
        due("restore", x.restore(), 0);
        due("wool", x.told(5), 8);
        due("day", x.told(4), 0);
        due("heels", x.egg(0, 1), 0);
        due("wear", x.hole(0, 0), 9);
        due("works", x.count(2), 2);
        due("undo", x.undo(), 1);
        due("wool", x.told(5), 6);
        due("undo", x.undo(), 0);
        due("wool", x.told(5), 5);
        due("the law stays", x.mend(0, 0, 0), 5);
        due("the book stays", x.told(10), 1);
        due("status stays", x.status(1), 1);
        due("no image", x.restore(), -1);
    }

    private static void p37() {
        about = "37 status";
        DarnEggs x = at("hole 1;");
        due("none", x.status(0), 0);
        due("none", x.status(1), 0);
        x.image();
        noElement("egg", () -> x.egg(0, 9));
        noElement("hand", () -> x.hand(0, 9));
        badArgument("told", () -> x.told(77));
        badArgument("village", () -> x.village(1));
        badArgument("would", () -> x.would(-1, -1, -1, -1, -1, -1, -1, -1));
        x.restore();
        due("two", x.status(0), 2);
        due("three", x.status(1), 3);
        due("faults are not refused calls", village(x, "x"), -9);
        due("a village", village(x, "hole 1;"), 1);
        due("two", x.status(0), 2);
        due("three", x.status(1), 3);
        due("others", x.status(2), -1);
        due("others", x.status(-1), -1);
    }

    private static void p38() {
        about = "38 count";
        DarnEggs x = at("hole 1;");
        work(x, "day;");
        work(x, "day;");
        x.image();
        x.feed(1, 2, 3, 4, 5);
        x.feed(1, 2, 3, 4, 5);
        due("images", x.count(0), 1);
        due("bytes", x.count(1), 40);
        due("works", x.count(2), 2);
        due("others", x.count(3), -1);
        due("others", x.count(-1), -1);
    }

    // ---- terms -----------------------------------------------------------------------------

    private static void steps() {
        about = "a step";
        DarnEggs x = at("egg 9;egg 1;hand 0;hand 0;hand 5;hole 60;hole 1;wool 98;");
        law(x, "20");
        due("ridge", work(x, "darn 0 0 1;"), 1);
        due("ridge", x.hole(1, 1), 19);
        due("shear to 99", work(x, "shear 40;shear 1;"), 1);
        due("wool", x.told(5), 99);
        due("unpick", work(x, "unpick 1;unpick 1;"), 1);
        due("wear", x.hole(1, 0), 19);
        due("wool", x.told(5), 99);
        due("mends just so", work(x, "darn 1 0 1;"), 1);
        due("wear", x.hole(1, 0), 0);
        due("ridge", x.hole(1, 1), 1);
        due("half of one", work(x, "unpick 1;"), 1);
        due("wool", x.told(5), 98);
        due("let", work(x, "let 1 0;call 1;darn 2 1 0;let 1 0;let 1 0;let 1 1;call 1;call 1;call 0;"), 4);
        due("refused", x.told(11), 5);
        DarnEggs y = at("egg 20;hand 0;hole 1;hole 60;wool 99;moths 1;");
        law(y, "20");
        // Each day the moths wear it by one, and a darn of 20 leaves 19 on the ridge: 19, 38, .. 99 at most
        work(y, "again 9[darn 0 0 0;day;];");
        due("ridge, 99 at most", y.hole(0, 1), 99);
        work(y, "unpick 0;");
        due("wear, 99 at most", y.hole(0, 0), 99);
        due("wool, 99 at most", y.told(5), 99);
        due("moths, 99 at most", work(y, "day;"), 1);
        due("wear", y.hole(0, 0), 99);
        due("the other one", y.hole(1, 0), 70);
    }

    private static void days() {
        about = "a day";
        DarnEggs x = at("egg 1;egg 1;hand 5;hand 0;hole 9;hole 1;hole 0;path 1 0;path 1 2;");
        law(x, "0");
        work(x, "darn 0 0 0;darn 1 1 0;let 0 2;let 1 1;day;");
        due("a HOOKED one wears", x.hole(2, 0), 2);
        due("and stays", x.egg(0, 3), 2);
        due("another one mends", x.hole(1, 0), 0);
        due("and goes to the greatest", x.egg(1, 3), 0);
        work(x, "let 1 1;let 0 1;day;");
        // The HOOKED one comes first: 2 more, then 1 less
        due("by numbers", x.hole(1, 0), 1);
        DarnEggs y = at("egg 1;hand 0;hole 1;hole 0;path 0 1;");
        work(y, "darn 0 0 0;let 0 0;day;day;");
        due("nowhere to go", y.egg(0, 3), 0);
        due("the ridge grows", y.hole(0, 1), 4);
        DarnEggs z = at("egg 1;hand 9;hole 60;");
        work(z, "darn 0 0 0;let 0 0;again 25[day;];");
        due("99 at most", z.hole(0, 0), 99);
        DarnEggs w = at("hole 0;moths 7;");
        for (int i = 0; i < 3; i++) {
            due("192 days", work(w, "again 30[again 30[day;];];"), 192);
        }
        due("24 days", work(w, "again 30[day;];"), 24);
        due("refused from DAY 600 on", w.told(11), 6);
        due("day", w.told(4), 600);
        due("wear", w.hole(0, 0), 85);
        due("asked, days go by beyond 600", w.ahead(2, 0), 86);
        due("in a generation, too", w.generation(1, 0, 96, 0), 99);
        DarnEggs v = at("egg 1;hand 0;hole 9;moths 1;");
        law(v, "0");
        work(v, "darn 0 0 0;");
        due("no hand has darned the next day", v.hand(0, 1), 1);
        work(v, "day;");
        due("no hand has darned the next day", v.hand(0, 1), 0);
        due("moths", v.hole(0, 0), 10);
    }

    // README.md shows these calls and texts.
    private static void readme() {
        about = "README.md";
        DarnEggs x = new DarnEggs();
        due("feed", x.feed(0x65676720, 0x313b6861, 0x6e642030, 0x3b686f6c, 0x6520393b), 20);
        due("village", x.village(20), 1);
        due("feed", x.feed(0x6461726e, 0x20302030, 0x20303b20, 0, 0), 20);
        due("work", x.work(12), 1);
        due("hole", x.hole(0, 0), 6);
        due("undo", x.undo(), 0);
        due("hole", x.hole(0, 0), 9);
        DarnEggs y = new DarnEggs();
        due("village", village(y, "egg 2;hand 6;hole 5;hole 8;path 0 1;wool 4;moths 3;"), 2);
        due("law", law(y, "least[wear, 3 + heels / 2] - anger % 4"), 1);
        due("work", work(y, "darn 0 0 1;again 3[day;unpick 1;];let 0 1;call 0;shear 9;"), 5);
        due("refused", y.told(11), 5);
        due("book", book(y, "0 2;1 7;"), 2);
    }
}
