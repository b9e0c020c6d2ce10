import java.util.NoSuchElementException;

/** What the tests by hand share: calls with texts, the answers that are due, and all that an object can be asked. */
abstract class Due {
    static final String SMALL = "egg 2;egg 3;hand 0;hand 6;hand 3;hole 5;hole 8;hole 0;hole 2;"
            + "path 0 1;path 1 2;path 2 3;wool 4;moths 3;";

    static String about = "";
    private static int wrong = 0;

    interface Call {
        long go();
    }

    static void say(String what) {
        wrong++;
        System.out.println(about + ": " + what);
    }

    static void end() {
        if (wrong > 0) {
            System.exit(1);
        }
    }

    // ---- answers ---------------------------------------------------------------------------

    static void due(String what, long got, long want) {
        if (got != want) {
            say(what + " answered " + got + ", due is " + want);
        }
    }

    static void due(String what, boolean got, boolean want) {
        due(what, got ? 1 : 0, want ? 1 : 0);
    }

    static void same(String what, String got, String want) {
        if (!got.equals(want)) {
            say(what + " is " + got + ", due is " + want);
        }
    }

    static void noElement(String what, Call call) {
        thrown(what, call, "NoSuchElementException");
    }

    static void badArgument(String what, Call call) {
        thrown(what, call, "IllegalArgumentException");
    }

    private static void thrown(String what, Call call, String want) {
        String got;
        try {
            got = "" + call.go();
        } catch (NoSuchElementException | IllegalArgumentException e) {
            got = e.getClass().getSimpleName();
        }
        if (!got.equals(want)) {
            say(what + " answered " + got + ", due is " + want);
        }
    }

    // ---- texts -----------------------------------------------------------------------------

    static String times(int n, String t) {
        return t.repeat(n);
    }

    static void feed(DarnEggs x, String text) {
        for (int i = 0; i < text.length(); i += 20) {
            int[] a = new int[5];
            for (int j = 0; j < 20; j++) {
                a[j / 4] = a[j / 4] << 8 | (i + j < text.length() ? text.charAt(i + j) : 0);
            }
            x.feed(a[0], a[1], a[2], a[3], a[4]);
        }
    }

    static int village(DarnEggs x, String t) {
        feed(x, t);
        return x.village(t.length());
    }

    static int law(DarnEggs x, String t) {
        feed(x, t);
        return x.law(t.length());
    }

    static int work(DarnEggs x, String t) {
        feed(x, t);
        return x.work(t.length());
    }

    static int book(DarnEggs x, String t) {
        feed(x, t);
        return x.book(t.length());
    }

    static DarnEggs at(String villageText) {
        DarnEggs x = new DarnEggs();
        if (village(x, villageText) < 0) {
            due("village \"" + villageText + "\" fault", x.fault(), DarnEggs.NONE);
        }
        return x;
    }

    /** A village with a law and a work that is done, for what is asked behind it. */
    static DarnEggs at(String villageText, String lawText, String workText) {
        DarnEggs x = at(villageText);
        due("law \"" + lawText + "\"", law(x, lawText), 1);
        if (work(x, workText) < 0) {
            due("work \"" + workText + "\" fault", x.fault(), DarnEggs.NONE);
        }
        return x;
    }

    static void villageIs(String t, int holes) {
        DarnEggs x = new DarnEggs();
        due("village \"" + t + "\"", village(x, t), holes);
        due("its fault", x.fault(), DarnEggs.NONE);
    }

    static void villageFault(String t, int kind, int place) {
        DarnEggs x = new DarnEggs();
        due("village \"" + t + "\"", village(x, t), kind - 10);
        due("fault of \"" + t + "\"", x.fault(), place);
    }

    static void lawGives(String t, int want) {
        DarnEggs x = new DarnEggs();
        due("law \"" + t + "\"", law(x, t), 1);
        due("fault of \"" + t + "\"", x.fault(), DarnEggs.NONE);
        due("would by \"" + t + "\"", x.would(1, 2, 3, 4, 5, 6, 7, 5), want);
    }

    static void lawFault(String t, int kind, int place) {
        DarnEggs x = at(SMALL);
        due("law \"" + t + "\"", law(x, t), kind - 10);
        due("fault of \"" + t + "\"", x.fault(), place);
    }

    static void workDoes(String t, int done, int refused) {
        DarnEggs x = at(SMALL);
        due("work \"" + t + "\"", work(x, t), done);
        due("fault of \"" + t + "\"", x.fault(), DarnEggs.NONE);
        due("refused by \"" + t + "\"", x.told(11), refused);
    }

    static void workFault(String t, int kind, int place) {
        DarnEggs x = at(SMALL);
        due("work \"" + t + "\"", work(x, t), kind - 10);
        due("fault of \"" + t + "\"", x.fault(), place);
        due("works", x.count(2), 0);
    }

    static void bookHas(DarnEggs x, String t, int lines) {
        due("book \"" + t + "\"", book(x, t), lines);
        due("fault of \"" + t + "\"", x.fault(), DarnEggs.NONE);
        due("lines", x.told(10), lines);
    }

    static void bookFault(DarnEggs x, String t, int kind, int place) {
        due("book \"" + t + "\"", book(x, t), kind - 10);
        due("fault of \"" + t + "\"", x.fault(), place);
    }

    // ---- all that can be asked -------------------------------------------------------------

    /** All that WORK changes. */
    static String state(DarnEggs x) {
        StringBuilder b = new StringBuilder();
        for (int what = 4; what < 10; what++) {
            b.append(x.told(what)).append(' ');
        }
        for (int e = 0; e < x.told(0); e++) {
            for (int what = 0; what < 6; what++) {
                b.append(x.egg(e, what)).append(' ');
            }
        }
        for (int h = 0; h < x.told(1); h++) {
            for (int what = 0; what < 3; what++) {
                b.append(x.hand(h, what)).append(' ');
            }
        }
        for (int p = 0; p < x.told(2); p++) {
            for (int what = 0; what < 5; what++) {
                b.append(x.hole(p, what)).append(' ');
            }
        }
        return b.toString();
    }

    /** The state, the village, the law, the book, the works and images, the refusals; not the TAPE and its FAULT. */
    static String all(DarnEggs x) {
        StringBuilder b = new StringBuilder(state(x));
        for (int what : new int[] {0, 1, 2, 3, 10, 11}) {
            b.append(x.told(what)).append(' ');
        }
        for (int p = 0; p < x.told(3); p++) {
            b.append(x.path(p, 0)).append(x.path(p, 1)).append(' ');
        }
        for (int h = 0; h < 6; h++) {
            b.append(x.would(h, 9 - h, 7 * h, 50 - h, 99 - 8 * h, h / 2, 100 * h, h)).append(' ');
        }
        b.append(x.fits(0)).append(' ').append(x.fits(1)).append(' ').append(x.look(0)).append(' ').append(x.look(1));
        b.append(' ').append(x.count(0)).append(' ').append(x.count(2));
        b.append(' ').append(x.status(0)).append(' ').append(x.status(1));
        return b.toString();
    }
}
